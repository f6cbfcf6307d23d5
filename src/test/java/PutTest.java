/** Promise 2. */
public final class PutTest {
    public static void main(String[] args) {
        Due due = new Due("PutTest");
        putsAndShips(due);
        takesEveryKeyAndValue(due);
        refusesWrongNodeAndKey(due);
        refusesWhenDown(due);
        refusesWhenNoPrimary(due);
        refusesWhenLogIsFull(due);
        refusesWhenLinkIsFull(due);
        goesDownByTheFuse(due);
        usesTheTermOfThePrimary(due);
        due.end();
    }

    private static void putsAndShips(Due due) {
        TwinLog x = new TwinLog();
        due.is("first put", x.put(0, 3, 30), 0);
        due.is("second put", x.put(0, 4, 40), 1);
        due.log("put", x, 0, Runs.row(2, 3, 30), Runs.row(2, 4, 40));
        due.link("put", x, Runs.row(1, 1, 2, 0), Runs.row(1, 1, 2, 1));
        due.node("put", x, 0, 2, 2, 1, 1, -1, -1, 2);
        due.node("put", x, 1, 0, 0, 1, 0, -1, -1, 0);
    }

    private static void takesEveryKeyAndValue(Due due) {
        int[] values = {0, -1, 1, Integer.MIN_VALUE, Integer.MAX_VALUE};
        for (int key = 0; key < 16; key++) {
            TwinLog x = new TwinLog();
            for (int i = 0; i < values.length; i++) {
                due.is("put of key " + key, x.put(0, key, values[i]), i);
                due.is("key", x.entry(0, i, 1), key);
                due.is("value", x.entry(0, i, 2), values[i]);
            }
            Runs.pumpAll(x);
            due.is("all shipped", x.same(), values.length);
        }
    }

    private static void refusesWrongNodeAndKey(Due due) {
        TwinLog x = new TwinLog();
        for (int node : Runs.WRONG_NODES) {
            due.is("put(" + node + ", 0, 0)", x.put(node, 0, 0), TwinLog.BAD);
        }
        int[] keys = {-1, 16, 17, Integer.MIN_VALUE, Integer.MAX_VALUE};
        for (int key : keys) {
            due.is("put(0, " + key + ", 0)", x.put(0, key, 0), TwinLog.BAD);
            due.is("put(1, " + key + ", 0)", x.put(1, key, 0), TwinLog.BAD);
        }
        x.crash(0);
        due.is("wrong key at a node that is down", x.put(0, 16, 0), TwinLog.BAD);
        due.log("refused", x, 0);
        due.link("refused", x);
    }

    private static void refusesWhenDown(Due due) {
        TwinLog x = Runs.fullLink();
        x.crash(0);
        due.is("down, with a full link", x.put(0, 0, 0), TwinLog.DOWN);
        x.crash(1);
        due.is("down, never primary", x.put(1, 0, 0), TwinLog.DOWN);
        due.is("log", x.told(0, 1), 16);
    }

    private static void refusesWhenNoPrimary(Due due) {
        TwinLog x = Runs.fullLink();
        due.is("no primary, with a full link", x.put(1, 0, 0), TwinLog.NOT_SO);
        x.crash(0);
        x.recover(0);
        due.is("come up again", x.put(0, 0, 0), TwinLog.NOT_SO);
        due.is("log", x.told(0, 1), 16);
        due.is("writes", x.told(0, 6), 16);
    }

    private static void refusesWhenLogIsFull(Due due) {
        TwinLog x = new TwinLog();
        Runs.putUnshipped(x, 0, 63);
        due.is("entry 63", x.put(0, 15, 7), 63);
        Runs.dropAll(x);
        x.fuse(0, 0);
        due.is("log has 64", x.put(0, 0, 0), TwinLog.FULL);
        due.node("a refused put is no write", x, 0, 2, 64, 1, 1, -1, 0, 64);
        due.link("a refused put ships nothing", x);
    }

    private static void refusesWhenLinkIsFull(Due due) {
        TwinLog x = Runs.fullLink();
        x.fuse(0, 0);
        due.is("link has 16", x.put(0, 0, 0), TwinLog.FULL);
        due.node("a refused put is no write", x, 0, 2, 16, 1, 1, -1, 0, 16);
        x.fuse(0, -1);
        x.drop(15);
        due.is("link has 15", x.put(0, 0, 0), 16);
        due.is("last message", x.message(15, 3), 16);
    }

    private static void goesDownByTheFuse(Due due) {
        TwinLog x = new TwinLog();
        x.fuse(0, 1);
        due.is("within the fuse", x.put(0, 1, 1), 0);
        due.is("behind the fuse", x.put(0, 2, 2), TwinLog.DOWN);
        due.node("blown", x, 0, 2, 1, 0, 0, -1, -1, 1);
        due.link("nothing more is shipped", x, Runs.row(1, 1, 2, 0));
    }

    private static void usesTheTermOfThePrimary(Due due) {
        TwinLog x = Runs.inStep(1);
        x.promote(1);
        due.is("put at node 1", x.put(1, 5, 50), 1);
        due.is("its term", x.entry(1, 1, 0), 3);
        due.link("shipped to node 0", x, Runs.row(1, 0, 3, 1));
        due.is("the old primary still puts", x.put(0, 6, 60), 1);
        due.is("its term", x.entry(0, 1, 0), 2);
    }
}
