/** Each answer BAD, NOT_SO, FULL, DOWN and 0 that a promise names; a call that is refused changes nothing. */
public final class AnswerEdgesTest {
    public static void main(String[] args) {
        Due due = new Due("AnswerEdgesTest");
        put(due);
        putOfAFollower(due);
        get(due);
        crash(due);
        recover(due);
        promote(due);
        rejoin(due);
        looksChangeNothing(due);
        onlyANodeThatIsUp(due);
        due.end();
    }

    private static TwinLog fusedToZero() {
        TwinLog x = Runs.inStep(1);
        x.fuse(0, 0);
        x.fuse(1, 0);
        return x;
    }

    private static TwinLog fullLinkDown() {
        TwinLog x = Runs.fullLink();
        x.crash(0);
        x.crash(1);
        return x;
    }

    private static void put(Due due) {
        due.sentence("DOWN when it is down, also by this");
        due.refused("put at node 0, down", Runs::bothDown, x -> x.put(0, 0, 0), TwinLog.DOWN);
        due.refused("put at node 1, down", Runs::bothDown, x -> x.put(1, 0, 0), TwinLog.DOWN);
        due.refused("put at node 0, down, full link", AnswerEdgesTest::fullLinkDown, x -> x.put(0, 0, 0), TwinLog.DOWN);
        TwinLog blown = fusedToZero();
        due.is("put with fuse 0", blown.put(0, 0, 0), TwinLog.DOWN);
        due.node("down by this", blown, 0, 2, 1, 0, 0, -1, -1, 1);
        due.is("put again", blown.put(0, 0, 0), TwinLog.DOWN);
        due.sentence("NOT_SO when it is no primary");
        due.refused("put at node 1", () -> Runs.inStep(1), x -> x.put(1, 0, 0), TwinLog.NOT_SO);
        due.refused("put at node 1 of a new object", TwinLog::new, x -> x.put(1, 0, 0), TwinLog.NOT_SO);
        due.refused("put at node 1, full link", Runs::fullLink, x -> x.put(1, 0, 0), TwinLog.NOT_SO);
        due.sentence("FULL when the log has 64, or the link 16");
        due.refused("put, full log", Runs::fullLog, x -> x.put(0, 0, 0), TwinLog.FULL);
        due.refused("put, full link", Runs::fullLink, x -> x.put(0, 0, 0), TwinLog.FULL);
    }

    private static void putOfAFollower(Due due) {
        due.sentence("A node that goes down is no primary any more, and none when it comes up again");
        TwinLog x = Runs.inStep(1);
        x.crash(0);
        x.recover(0);
        due.is("put at a node that came up again", x.put(0, 0, 0), TwinLog.NOT_SO);
        due.sentence("it is no primary any more");
        TwinLog y = Runs.apartAtOne();
        y.pump();
        due.is("put at a node that has seen a greater term", y.put(0, 0, 0), TwinLog.NOT_SO);
        due.is("put at the new primary", y.put(1, 0, 0), 2);
    }

    private static void get(Due due) {
        due.sentence("0 when there is none");
        due.refused("get, empty log", TwinLog::new, x -> x.get(0, 0), 0);
        due.refused("get, other keys alone", () -> Runs.inStep(15), x -> x.get(0, 15), 0);
        due.refused("get, other keys alone, at node 1", () -> Runs.inStep(15), x -> x.get(1, 15), 0);
        due.sentence("(also when it is down)");
        due.refused("get, down", Runs::bothDown, x -> x.get(0, 1), 101);
        due.refused("get, down, at node 1", Runs::bothDown, x -> x.get(1, 1), 101);
        due.refused("get, down, none", Runs::bothDown, x -> x.get(0, 2), 0);
        due.sentence("The value of the last entry with a key in a node's log");
        TwinLog x = new TwinLog();
        int[] values = {5, 0, -1, -4, Integer.MIN_VALUE, Integer.MAX_VALUE};
        for (int value : values) {
            x.put(0, 3, value);
            due.is("get", x.get(0, 3), value);
        }
        x.put(0, 4, 9);
        due.is("get, not the log's last", x.get(0, 3), Integer.MAX_VALUE);
    }

    private static void crash(Due due) {
        due.sentence("1; 0 when it was");
        for (int node = 0; node < 2; node++) {
            TwinLog x = Runs.inStep(1);
            due.is("crash", x.crash(node), 1);
            due.is("crash again", x.crash(node), 0);
            due.is("the other one is up", x.told(1 - node, 2), 1);
            due.is("recover", x.recover(node), 1);
            due.is("crash", x.crash(node), 1);
        }
        due.refused("crash, down", Runs::bothDown, x -> x.crash(0), 0);
        due.refused("crash, down", Runs::bothDown, x -> x.crash(1), 0);
    }

    private static void recover(Due due) {
        due.sentence("NOT_SO when it was up");
        due.refused("recover, primary", Runs::apartAtOne, x -> x.recover(1), TwinLog.NOT_SO);
        due.refused("recover, no primary", () -> Runs.inStep(1), x -> x.recover(1), TwinLog.NOT_SO);
        due.refused("recover, fuse 0", AnswerEdgesTest::fusedToZero, x -> x.recover(0), TwinLog.NOT_SO);
        TwinLog x = Runs.bothDown();
        due.is("recover", x.recover(0), 4);
        due.is("recover again", x.recover(0), TwinLog.NOT_SO);
        due.is("the other one", x.recover(1), 2);
    }

    private static void promote(Due due) {
        due.sentence("DOWN, also by this");
        due.refused("promote, down", Runs::bothDown, x -> x.promote(0), TwinLog.DOWN);
        due.refused("promote, down", Runs::bothDown, x -> x.promote(1), TwinLog.DOWN);
        for (int node = 0; node < 2; node++) {
            TwinLog x = fusedToZero();
            int writes = x.told(node, 6);
            due.is("promote with fuse 0", x.promote(node), TwinLog.DOWN);
            due.node("down by this", x, node, 2, 1, 0, 0, -1, -1, writes);
            due.is("promote again", x.promote(node), TwinLog.DOWN);
            x.recover(node);
            due.is("promote when it is up", x.promote(node), node == 0 ? 4 : 3);
        }
    }

    private static void rejoin(Due due) {
        due.sentence("A node that is up and no primary sends WANT with its log's length to the other one: 1. DOWN; NOT_SO; FULL");
        due.refused("rejoin, down", Runs::bothDown, x -> x.rejoin(0), TwinLog.DOWN);
        due.refused("rejoin, down", Runs::bothDown, x -> x.rejoin(1), TwinLog.DOWN);
        due.refused("rejoin, down, full link", AnswerEdgesTest::fullLinkDown, x -> x.rejoin(1), TwinLog.DOWN);
        due.refused("rejoin, primary", () -> Runs.inStep(1), x -> x.rejoin(0), TwinLog.NOT_SO);
        due.refused("rejoin, primary", Runs::apartAtOne, x -> x.rejoin(1), TwinLog.NOT_SO);
        due.refused("rejoin, primary, full link", Runs::fullLink, x -> x.rejoin(0), TwinLog.NOT_SO);
        due.refused("rejoin, full link", Runs::fullLink, x -> x.rejoin(1), TwinLog.FULL);
        TwinLog x = Runs.fullLink();
        x.drop(0);
        due.is("rejoin, 15 on the link", x.rejoin(1), 1);
        due.is("the last one", x.message(15, 0), 3);
        due.is("rejoin again", x.rejoin(1), TwinLog.FULL);
    }

    private static void looksChangeNothing(Due due) {
        due.sentence("Nothing is promised beyond the answers and state changes described above");
        due.refused("get", Runs::apartAtOne, x -> x.get(0, 1), 101);
        due.refused("told", Runs::apartAtOne, x -> x.told(0, 6), 2);
        due.refused("entry", Runs::apartAtOne, x -> x.entry(1, 1, 2), 80);
        due.refused("message", Runs::apartAtOne, x -> x.message(0, 3), 1);
        due.refused("same", Runs::apartAtOne, x -> x.same(), 1);
    }

    private static void onlyANodeThatIsUp(Due due) {
        due.sentence("Only a node that is up does anything");
        TwinLog x = Runs.bothDown();
        due.is("put", x.put(0, 0, 0), TwinLog.DOWN);
        due.is("promote", x.promote(1), TwinLog.DOWN);
        due.is("rejoin", x.rejoin(1), TwinLog.DOWN);
        due.is("SHIP", x.pump(), 11);
        due.is("and nothing came of it", x.pump(), 0);
        due.node("node 0", x, 0, 2, 4, 0, 0, -1, -1, 4);
        due.node("node 1", x, 1, 2, 2, 0, 0, -1, -1, 3);
    }
}
