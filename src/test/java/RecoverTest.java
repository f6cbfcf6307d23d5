/** Promise 8. */
public final class RecoverTest {
    public static void main(String[] args) {
        Due due = new Due("RecoverTest");
        TwinLog x = Runs.inStep(2);
        x.fuse(0, 5);
        due.is("up", x.recover(0), TwinLog.NOT_SO);
        due.node("nothing changed", x, 0, 2, 2, 1, 1, 1, 5, 2);
        due.is("up, no primary", x.recover(1), TwinLog.NOT_SO);
        x.crash(0);
        x.fuse(0, 1);
        due.is("two entries", x.recover(0), 2);
        due.node("no primary, no fuse", x, 0, 2, 2, 1, 0, -1, -1, 2);
        due.is("up again", x.recover(0), TwinLog.NOT_SO);
        x.crash(1);
        due.is("node 1", x.recover(1), 2);
        due.node("node 1", x, 1, 2, 2, 1, 0, -1, -1, 3);
        for (int node : Runs.WRONG_NODES) {
            due.is("recover(" + node + ")", x.recover(node), TwinLog.BAD);
        }
        TwinLog y = new TwinLog();
        y.crash(1);
        due.is("empty log", y.recover(1), 0);
        due.end();
    }
}
