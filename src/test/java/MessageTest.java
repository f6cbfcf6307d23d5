/** Promise 13. */
public final class MessageTest {
    public static void main(String[] args) {
        Due due = new Due("MessageTest");
        TwinLog x = new TwinLog();
        due.link("empty", x);
        x.put(0, 1, 10);
        x.put(0, 2, 20);
        x.pump();
        x.rejoin(1);
        due.link("every kind", x, Runs.row(1, 1, 2, 1), Runs.row(2, 0, 2, 0), Runs.row(3, 0, 2, 1));
        int[] wrong = {-1, 3, 16, Integer.MIN_VALUE, Integer.MAX_VALUE};
        for (int i : wrong) {
            for (int what = -1; what < 5; what++) {
                due.is("message(" + i + ", " + what + ")", x.message(i, what), TwinLog.BAD);
            }
        }
        int[] wrongWhat = {-1, 4, 5, Integer.MIN_VALUE, Integer.MAX_VALUE};
        for (int what : wrongWhat) {
            due.is("message(0, " + what + ")", x.message(0, what), TwinLog.BAD);
        }
        keepsTheTermOfItsSending(due);
        fullLink(due);
        due.end();
    }

    private static void keepsTheTermOfItsSending(Due due) {
        TwinLog x = new TwinLog();
        x.put(0, 1, 10);
        x.promote(0);
        x.put(0, 2, 20);
        due.link("two terms", x, Runs.row(1, 1, 2, 0), Runs.row(1, 1, 4, 1));
        x.crash(0);
        due.link("the sender is down", x, Runs.row(1, 1, 2, 0), Runs.row(1, 1, 4, 1));
    }

    private static void fullLink(Due due) {
        TwinLog x = Runs.fullLink();
        for (int i = 0; i < 16; i++) {
            due.is("number of message " + i, x.message(i, 3), i);
        }
        due.is("message(16, 0)", x.message(16, 0), TwinLog.BAD);
    }
}
