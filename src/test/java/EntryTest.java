/** Promise 12. */
public final class EntryTest {
    public static void main(String[] args) {
        Due due = new Due("EntryTest");
        TwinLog x = new TwinLog();
        due.is("empty log", x.entry(0, 0, 0), 0);
        x.put(0, 5, -50);
        x.put(0, 6, 60);
        Runs.pumpAll(x);
        for (int node = 0; node < 2; node++) {
            due.log("two entries", x, node, Runs.row(2, 5, -50), Runs.row(2, 6, 60));
            for (int what = -1; what < 5; what++) {
                due.is("before the first", x.entry(node, -1, what), 0);
                due.is("behind the last", x.entry(node, 2, what), 0);
                due.is("far behind", x.entry(node, 64, what), 0);
                due.is("least", x.entry(node, Integer.MIN_VALUE, what), 0);
                due.is("greatest", x.entry(node, Integer.MAX_VALUE, what), 0);
            }
            int[] wrong = {-1, 3, Integer.MIN_VALUE, Integer.MAX_VALUE};
            for (int what : wrong) {
                due.is("entry(" + node + ", 0, " + what + ")", x.entry(node, 0, what), 0);
            }
        }
        for (int node : Runs.WRONG_NODES) {
            due.is("entry(" + node + ", 0, 0)", x.entry(node, 0, 0), 0);
            due.is("entry(" + node + ", 0, 1)", x.entry(node, 0, 1), 0);
        }
        x.crash(0);
        due.log("also when it is down", x, 0, Runs.row(2, 5, -50), Runs.row(2, 6, 60));
        cutEntriesAreGone(due);
        wholeLog(due);
        due.end();
    }

    private static void cutEntriesAreGone(Due due) {
        TwinLog x = Runs.longerThanTold();
        x.pump();
        due.log("cut to one", x, 0, Runs.row(2, 0, 100));
        due.is("entry 1", x.entry(0, 1, 0), 0);
        due.is("entry 2", x.entry(0, 2, 2), 0);
    }

    private static void wholeLog(Due due) {
        TwinLog x = Runs.inStep(64);
        int[] some = {0, 1, 15, 16, 32, 62, 63};
        for (int node = 0; node < 2; node++) {
            for (int i : some) {
                due.is("term of " + i, x.entry(node, i, 0), 2);
                due.is("key of " + i, x.entry(node, i, 1), i % 16);
                due.is("value of " + i, x.entry(node, i, 2), 100 + i);
            }
            due.is("entry 64", x.entry(node, 64, 0), 0);
        }
    }
}
