/** Promise 11. */
public final class ToldTest {
    public static void main(String[] args) {
        Due due = new Due("ToldTest");
        TwinLog x = Runs.inStep(3);
        x.fuse(0, 9);
        due.node("in step", x, 0, 2, 3, 1, 1, 2, 9, 3);
        due.node("in step", x, 1, 2, 3, 1, 0, -1, -1, 4);
        x.crash(0);
        due.node("a node that goes down is no primary", x, 0, 2, 3, 0, 0, -1, -1, 3);
        x.recover(0);
        due.node("and none when it comes up", x, 0, 2, 3, 1, 0, -1, -1, 3);
        for (int node : Runs.WRONG_NODES) {
            for (int what = -1; what <= 7; what++) {
                due.is("told(" + node + ", " + what + ")", x.told(node, what), TwinLog.BAD);
            }
        }
        int[] wrong = {-1, 7, 8, Integer.MIN_VALUE, Integer.MAX_VALUE};
        for (int what : wrong) {
            due.is("told(0, " + what + ")", x.told(0, what), TwinLog.BAD);
            due.is("told(1, " + what + ")", x.told(1, what), TwinLog.BAD);
        }
        countsEveryKindOfWrite(due);
        steppedDownHasNoneAgreed(due);
        due.end();
    }

    private static void countsEveryKindOfWrite(Due due) {
        TwinLog x = Runs.apartAtOne();
        due.is("two entries", x.told(0, 6), 2);
        x.pump();
        due.is("and a term, a cut, an entry", x.told(0, 6), 5);
        x.crash(0);
        x.recover(0);
        due.is("a crash is no write, and keeps the count", x.told(0, 6), 5);
    }

    private static void steppedDownHasNoneAgreed(Due due) {
        TwinLog x = Runs.inStep(2);
        due.is("AGREED", x.told(0, 4), 1);
        x.promote(1);
        x.put(1, 1, 1);
        x.pump();
        due.node("no primary any more", x, 0, 3, 3, 1, 0, -1, -1, 4);
    }
}
