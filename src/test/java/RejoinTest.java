/** Promise 10. */
public final class RejoinTest {
    public static void main(String[] args) {
        Due due = new Due("RejoinTest");
        sendsWant(due);
        catchesUp(due);
        refuses(due);
        refusesOnFullLink(due);
        due.end();
    }

    private static void sendsWant(Due due) {
        TwinLog x = Runs.inStep(2);
        x.fuse(1, 0);
        due.is("rejoin(1)", x.rejoin(1), 1);
        due.link("WANT to node 0", x, Runs.row(3, 0, 2, 2));
        due.node("no write", x, 1, 2, 2, 1, 0, -1, 0, 3);
        x.crash(0);
        x.recover(0);
        due.is("rejoin(0), come up again", x.rejoin(0), 1);
        due.link("WANT to node 1", x, Runs.row(3, 0, 2, 2), Runs.row(3, 1, 2, 2));
        TwinLog y = new TwinLog();
        due.is("empty log, term 0", y.rejoin(1), 1);
        due.link("WANT 0", y, Runs.row(3, 0, 0, 0));
    }

    private static void catchesUp(Due due) {
        TwinLog x = Runs.inStep(2);
        x.crash(1);
        x.put(0, 7, 70);
        x.put(0, 8, 80);
        Runs.pumpAll(x);
        x.recover(1);
        due.is("behind", x.same(), 2);
        x.rejoin(1);
        Runs.pumpAll(x);
        due.is("caught up", x.same(), 4);
        due.is("AGREED", x.told(0, 4), 3);
    }

    private static void refuses(Due due) {
        TwinLog x = new TwinLog();
        due.is("primary", x.rejoin(0), TwinLog.NOT_SO);
        x.crash(0);
        due.is("down", x.rejoin(0), TwinLog.DOWN);
        x.crash(1);
        due.is("down, never primary", x.rejoin(1), TwinLog.DOWN);
        for (int node : Runs.WRONG_NODES) {
            due.is("rejoin(" + node + ")", x.rejoin(node), TwinLog.BAD);
        }
        due.link("nothing sent", x);
    }

    private static void refusesOnFullLink(Due due) {
        TwinLog x = Runs.fullLink();
        due.is("link has 16", x.rejoin(1), TwinLog.FULL);
        due.is("primary, link has 16", x.rejoin(0), TwinLog.NOT_SO);
        due.is("the last message stays", x.message(15, 0), 1);
        x.drop(3);
        due.is("link has 15", x.rejoin(1), 1);
        due.is("the last message", x.message(15, 0), 3);
        x.crash(1);
        due.is("down, link has 16", x.rejoin(1), TwinLog.DOWN);
    }
}
