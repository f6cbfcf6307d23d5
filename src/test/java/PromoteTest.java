/** Promise 9. */
public final class PromoteTest {
    public static void main(String[] args) {
        Due due = new Due("PromoteTest");
        leastTermOfItsOwn(due);
        forgetsWhatWasAgreed(due);
        goesDownByTheFuse(due);
        refuses(due);
        due.end();
    }

    private static void leastTermOfItsOwn(Due due) {
        TwinLog x = new TwinLog();
        due.is("node 1 above 0", x.promote(1), 1);
        due.node("node 1", x, 1, 1, 0, 1, 1, -1, -1, 1);
        due.node("node 0 is not told", x, 0, 2, 0, 1, 1, -1, -1, 0);
        due.link("nothing is sent", x);
        due.is("node 1 above 1", x.promote(1), 3);
        due.is("node 0 above 2", x.promote(0), 4);
        due.is("node 0 above 4", x.promote(0), 6);
        x.put(0, 1, 1);
        Runs.pumpAll(x);
        due.node("node 1 follows", x, 1, 6, 1, 1, 0);
        due.is("node 1 above 6", x.promote(1), 7);
        x.put(1, 2, 2);
        Runs.pumpAll(x);
        due.node("node 0 follows", x, 0, 7, 2, 1, 0);
        due.is("node 0 above 7", x.promote(0), 8);
    }

    private static void forgetsWhatWasAgreed(Due due) {
        TwinLog x = Runs.inStep(3);
        due.is("AGREED", x.told(0, 4), 2);
        due.is("promoted while primary", x.promote(0), 4);
        due.node("AGREED is gone", x, 0, 4, 3, 1, 1, -1, -1, 4);
        x.crash(0);
        x.recover(0);
        due.is("promoted after a crash", x.promote(0), 6);
        due.node("AGREED is gone", x, 0, 6, 3, 1, 1, -1, -1, 5);
    }

    private static void goesDownByTheFuse(Due due) {
        TwinLog x = new TwinLog();
        x.fuse(1, 1);
        due.is("within the fuse", x.promote(1), 1);
        due.is("behind the fuse", x.promote(1), TwinLog.DOWN);
        due.node("blown", x, 1, 1, 0, 0, 0, -1, -1, 1);
    }

    private static void refuses(Due due) {
        TwinLog x = new TwinLog();
        x.crash(0);
        due.is("down", x.promote(0), TwinLog.DOWN);
        due.node("no write", x, 0, 2, 0, 0, 0, -1, -1, 0);
        for (int node : Runs.WRONG_NODES) {
            due.is("promote(" + node + ")", x.promote(node), TwinLog.BAD);
        }
    }
}
