import java.util.function.Supplier;
import java.util.function.ToIntFunction;

/** Collects the answers that are not as due, for one test class. */
final class Due {
    private final String test;
    private String sentence = "";
    private int wrong;
    private int checked;

    Due(String test) {
        this.test = test;
    }

    /** The document's words that the checks from here on rest on; a wrong answer is told with them. */
    void sentence(String words) {
        sentence = "\"" + words + "\": ";
    }

    void is(String call, long got, long want) {
        checked++;
        if (got != want) {
            wrong++;
            System.out.println(test + ": " + sentence + call + " answered " + got + ", due is " + want);
        }
    }

    void is(String call, boolean got, boolean want) {
        is(call, got ? 1L : 0L, want ? 1L : 0L);
    }

    /** The wanted values stand in the order of told's second argument; fewer than seven are fine. */
    void node(String when, TwinLog x, int node, int... want) {
        for (int what = 0; what < want.length; what++) {
            is(when + ": told(" + node + ", " + what + ")", x.told(node, what), want[what]);
        }
    }

    /** Each row is kind, node, term, number; the link has to hold these messages and no more. */
    void link(String when, TwinLog x, int[]... rows) {
        for (int i = 0; i < rows.length; i++) {
            for (int what = 0; what < 4; what++) {
                is(when + ": message(" + i + ", " + what + ")", x.message(i, what), rows[i][what]);
            }
        }
        is(when + ": messages behind the last", x.message(rows.length, 0), TwinLog.BAD);
    }

    /** Each row is term, key, value; the log has to hold these entries and no more. */
    void log(String when, TwinLog x, int node, int[]... rows) {
        is(when + ": length of log " + node, x.told(node, 1), rows.length);
        for (int i = 0; i < rows.length; i++) {
            for (int what = 0; what < 3; what++) {
                is(when + ": entry(" + node + ", " + i + ", " + what + ")", x.entry(node, i, what), rows[i][what]);
            }
        }
    }

    /** The call has to answer this and to change nothing that can be seen; each time on a new object. */
    void refused(String call, Supplier<TwinLog> run, ToIntFunction<TwinLog> asked, int want) {
        TwinLog x = run.get();
        String before = State.of(x);
        is(call, asked.applyAsInt(x), want);
        String after = State.of(x);
        checked++;
        if (!after.equals(before)) {
            wrong++;
            System.out.println(test + ": " + sentence + call + " changed\n  " + before + "\nto\n  " + after);
        }
    }

    void end() {
        System.out.println(test + ": " + checked + " answers, " + wrong + " not as due");
        if (wrong != 0) {
            System.exit(1);
        }
    }
}
