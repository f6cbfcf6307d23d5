/** Promise 7. */
public final class CrashTest {
    public static void main(String[] args) {
        Due due = new Due("CrashTest");
        TwinLog x = Runs.inStep(2);
        x.fuse(0, 5);
        x.put(0, 1, 1);
        due.is("crash(0)", x.crash(0), 1);
        due.node("the disk stays", x, 0, 2, 3, 0, 0, -1, -1, 3);
        due.link("the link stays", x, Runs.row(1, 1, 2, 2));
        due.is("crash(0) again", x.crash(0), 0);
        x.fuse(0, 5);
        due.is("crash(0) with a fuse while down", x.crash(0), 0);
        due.node("the fuse is gone", x, 0, 2, 3, 0, 0, -1, -1, 3);
        due.node("the other one stays", x, 1, 2, 2, 1, 0, -1, -1, 3);
        due.is("crash(1)", x.crash(1), 1);
        due.is("crash(1) again", x.crash(1), 0);
        due.is("node 1 is down", x.told(1, 2), 0);
        for (int node : Runs.WRONG_NODES) {
            due.is("crash(" + node + ")", x.crash(node), TwinLog.BAD);
        }
        afterTheFuse(due);
        due.end();
    }

    private static void afterTheFuse(Due due) {
        TwinLog x = new TwinLog();
        x.fuse(0, 0);
        x.put(0, 0, 0);
        due.is("down by its fuse", x.crash(0), 0);
    }
}
