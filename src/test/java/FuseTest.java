/** Promise 6, and what the document says of writes and the fuse. */
public final class FuseTest {
    public static void main(String[] args) {
        Due due = new Due("FuseTest");
        setsAndTells(due);
        refusesWrongNode(due);
        countsDown(due);
        stopsTheTermWrite(due);
        stopsTheEntryWrite(due);
        stopsTheEntryBehindTheCut(due);
        stopsTheCutForAnotherTermBefore(due);
        stopsTheCutToTheToldLength(due);
        isGoneWithTheCrash(due);
        due.end();
    }

    private static void setsAndTells(Due due) {
        TwinLog x = new TwinLog();
        int[] given = {0, 1, 5, Integer.MAX_VALUE, -1, 7, -2, 3, Integer.MIN_VALUE};
        int[] told = {0, 1, 5, Integer.MAX_VALUE, -1, 7, -1, 3, -1};
        for (int i = 0; i < given.length; i++) {
            due.is("fuse(1, " + given[i] + ")", x.fuse(1, given[i]), 1);
            due.is("told(1, 5)", x.told(1, 5), told[i]);
            due.is("told(0, 5)", x.told(0, 5), -1);
        }
        x.crash(1);
        due.is("fuse of a node that is down", x.fuse(1, 4), 1);
        due.is("told of it", x.told(1, 5), 4);
    }

    private static void refusesWrongNode(Due due) {
        TwinLog x = new TwinLog();
        for (int node : Runs.WRONG_NODES) {
            due.is("fuse(" + node + ", 1)", x.fuse(node, 1), TwinLog.BAD);
        }
        due.is("fuse 0", x.told(0, 5), -1);
        due.is("fuse 1", x.told(1, 5), -1);
    }

    private static void countsDown(Due due) {
        TwinLog x = new TwinLog();
        x.fuse(0, 2);
        x.put(0, 1, 1);
        due.node("one write of two", x, 0, 2, 1, 1, 1, -1, 1, 1);
        x.promote(0);
        due.node("two writes of two", x, 0, 4, 1, 1, 1, -1, 0, 2);
        x.rejoin(1);
        x.get(0, 1);
        x.same();
        due.node("what writes nothing burns nothing", x, 0, 4, 1, 1, 1, -1, 0, 2);
        due.is("the write behind them", x.put(0, 1, 1), TwinLog.DOWN);
        due.node("blown", x, 0, 4, 1, 0, 0, -1, -1, 2);
    }

    private static void stopsTheTermWrite(Due due) {
        TwinLog x = new TwinLog();
        x.put(0, 1, 1);
        x.fuse(1, 0);
        x.pump();
        due.node("term", x, 1, 0, 0, 0, 0, -1, -1, 0);
        due.link("term", x);
    }

    private static void stopsTheEntryWrite(Due due) {
        TwinLog x = new TwinLog();
        x.put(0, 1, 1);
        x.fuse(1, 1);
        x.pump();
        due.node("entry", x, 1, 2, 0, 0, 0, -1, -1, 1);
        due.link("entry", x);
    }

    private static void stopsTheEntryBehindTheCut(Due due) {
        for (int fuse = 0; fuse < 4; fuse++) {
            TwinLog x = Runs.apartAtOne();
            x.fuse(0, fuse);
            due.is("SHIP with fuse " + fuse, x.pump(), 1);
            boolean whole = fuse == 3;
            int length = fuse < 2 || whole ? 2 : 1;
            due.node("fuse " + fuse, x, 0, fuse == 0 ? 2 : 3, length, whole ? 1 : 0, 0, -1, whole ? 0 : -1, 2 + fuse);
            due.is("fuse " + fuse + ": answer", x.message(0, 0), whole ? 2 : TwinLog.BAD);
        }
    }

    private static void stopsTheCutForAnotherTermBefore(Due due) {
        TwinLog x = Runs.apartAtOne();
        Runs.dropAll(x);
        x.put(1, 9, 90);
        x.fuse(0, 1);
        due.is("SHIP 2", x.pump(), 1);
        due.node("term but no cut", x, 0, 3, 2, 0, 0, -1, -1, 3);
        due.link("no WANT", x);
    }

    private static void stopsTheCutToTheToldLength(Due due) {
        TwinLog x = Runs.longerThanTold();
        x.fuse(0, 0);
        due.is("SHIP 0", x.pump(), 1);
        due.node("no cut", x, 0, 3, 3, 0, 0, -1, -1, 4);
        due.link("no ACK", x);
    }

    private static void isGoneWithTheCrash(Due due) {
        TwinLog x = new TwinLog();
        x.fuse(0, 0);
        x.promote(0);
        due.is("down", x.told(0, 2), 0);
        due.is("comes up", x.recover(0), 0);
        due.is("writes again", x.promote(0), 4);
    }
}
