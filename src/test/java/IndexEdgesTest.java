/** Indices and 'what' numbers below 0 and above the last one, in drop, told, entry and message. */
public final class IndexEdgesTest {
    private static final int[] FAR = {Integer.MIN_VALUE, -100, 100, Integer.MAX_VALUE};

    public static void main(String[] args) {
        Due due = new Due("IndexEdgesTest");
        drop(due);
        told(due);
        entryIndex(due);
        entryWhat(due);
        entryThatWasCut(due);
        messageIndex(due);
        messageWhat(due);
        due.end();
    }

    private static TwinLog onLink(int messages) {
        TwinLog x = new TwinLog();
        for (int i = 0; i < messages; i++) {
            x.put(0, i, i);
        }
        return x;
    }

    private static void drop(Due due) {
        due.sentence("Message i (from 0, the oldest) is lost: whether there was one");
        int[] counts = {0, 1, 2, 15, 16};
        for (int count : counts) {
            due.refused("drop(-1) of " + count, () -> onLink(count), x -> x.drop(-1) ? 1 : 0, 0);
            due.refused("drop behind the last of " + count, () -> onLink(count), x -> x.drop(count) ? 1 : 0, 0);
            for (int i : FAR) {
                due.refused("drop(" + i + ") of " + count, () -> onLink(count), x -> x.drop(i) ? 1 : 0, 0);
            }
            if (count > 0) {
                due.is("drop(0) of " + count, onLink(count).drop(0), true);
                due.is("drop of the last of " + count, onLink(count).drop(count - 1), true);
            }
        }
    }

    private static void told(Due due) {
        due.sentence("6 how many writes there were. BAD");
        for (int node = 0; node < 2; node++) {
            int n = node;
            due.refused("told(-1)", Runs::apartAtOne, x -> x.told(n, -1), TwinLog.BAD);
            due.refused("told(7)", Runs::apartAtOne, x -> x.told(n, 7), TwinLog.BAD);
            for (int what : FAR) {
                due.refused("told(" + what + ")", Runs::apartAtOne, x -> x.told(n, what), TwinLog.BAD);
            }
        }
        due.refused("told(0), the first", Runs::apartAtOne, x -> x.told(1, 0), 3);
        due.refused("told(6), the last", Runs::apartAtOne, x -> x.told(1, 6), 4);
    }

    private static void entryIndex(Due due) {
        due.sentence("0 when there is none such");
        int[] lengths = {0, 1, 2, 20};
        for (int length : lengths) {
            for (int node = 0; node < 2; node++) {
                TwinLog x = Runs.inStep(length);
                for (int what = 0; what < 3; what++) {
                    due.is("entry -1 of " + length, x.entry(node, -1, what), 0);
                    due.is("entry behind the last of " + length, x.entry(node, length, what), 0);
                    for (int i : FAR) {
                        due.is("entry " + i + " of " + length, x.entry(node, i, what), 0);
                    }
                }
                if (length > 0) {
                    due.is("the first", x.entry(node, 0, 2), 100);
                    due.is("the last", x.entry(node, length - 1, 2), 99 + length);
                }
            }
        }
        TwinLog full = Runs.fullLog();
        due.is("entry 63 of 64", full.entry(0, 63, 2), 163);
        due.is("entry 64 of 64", full.entry(0, 64, 2), 0);
        due.is("entry 65 of 64", full.entry(0, 65, 2), 0);
    }

    private static void entryWhat(Due due) {
        due.sentence("its term (what = 0), key (1), value (2); 0 when there is none such");
        for (int node = 0; node < 2; node++) {
            TwinLog x = Runs.inStep(2);
            due.is("what = -1", x.entry(node, 1, -1), 0);
            due.is("what = 0", x.entry(node, 1, 0), 2);
            due.is("what = 1", x.entry(node, 1, 1), 1);
            due.is("what = 2", x.entry(node, 1, 2), 101);
            due.is("what = 3", x.entry(node, 1, 3), 0);
            for (int what : FAR) {
                due.is("what = " + what, x.entry(node, 1, what), 0);
            }
        }
    }

    private static void entryThatWasCut(Due due) {
        due.sentence("0 when there is none such");
        TwinLog x = Runs.longerThanTold();
        due.is("before", x.entry(0, 2, 2), 102);
        x.pump();
        for (int what = 0; what < 3; what++) {
            due.is("entry 1", x.entry(0, 1, what), 0);
            due.is("entry 2", x.entry(0, 2, what), 0);
        }
    }

    private static void messageIndex(Due due) {
        due.sentence("BAD when there is none such");
        int[] counts = {0, 1, 2, 15, 16};
        for (int count : counts) {
            TwinLog x = onLink(count);
            for (int what = 0; what < 4; what++) {
                due.is("message -1 of " + count, x.message(-1, what), TwinLog.BAD);
                due.is("message behind the last of " + count, x.message(count, what), TwinLog.BAD);
                for (int i : FAR) {
                    due.is("message " + i + " of " + count, x.message(i, what), TwinLog.BAD);
                }
            }
            if (count > 0) {
                due.is("the first", x.message(0, 3), 0);
                due.is("the last", x.message(count - 1, 3), count - 1);
                x.drop(0);
                due.is("the last one's place when it moved up", x.message(count - 1, 3), TwinLog.BAD);
            }
        }
    }

    private static void messageWhat(Due due) {
        due.sentence("its kind (what = 0), node (1), term (2), number (3); BAD when there is none such");
        TwinLog x = onLink(1);
        x.pump();
        x.rejoin(1);
        x.put(0, 5, 50);
        int[][] rows = {{2, 0, 2, 0}, {3, 0, 2, 1}, {1, 1, 2, 1}};
        for (int i = 0; i < 3; i++) {
            due.is("what = -1", x.message(i, -1), TwinLog.BAD);
            for (int what = 0; what < 4; what++) {
                due.is("what = " + what, x.message(i, what), rows[i][what]);
            }
            for (int what = 4; what < 10; what++) {
                due.is("what = " + what, x.message(i, what), TwinLog.BAD);
            }
            for (int what : FAR) {
                due.is("what = " + what, x.message(i, what), TwinLog.BAD);
            }
        }
    }
}
