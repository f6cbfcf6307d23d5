/** All that can be seen of an object, as one text. */
final class State {
    /** Of a log beyond this only the ends are looked at, since an object has but 512 calls. */
    private static final int LONG_LOG = 20;

    private State() {
    }

    static String of(TwinLog x) {
        StringBuilder text = new StringBuilder();
        for (int node = 0; node < 2; node++) {
            text.append("node ").append(node).append(':');
            for (int what = 0; what < 7; what++) {
                text.append(' ').append(x.told(node, what));
            }
            addLog(text, x, node);
            text.append("; ");
        }
        addLink(text, x);
        return text.toString();
    }

    private static void addLog(StringBuilder text, TwinLog x, int node) {
        int length = x.told(node, 1);
        for (int i = 0; i < length; i++) {
            if (length <= LONG_LOG || i < 2 || i >= length - 2) {
                text.append(" (").append(x.entry(node, i, 0)).append(' ').append(x.entry(node, i, 1));
                text.append(' ').append(x.entry(node, i, 2)).append(')');
            }
        }
    }

    private static void addLink(StringBuilder text, TwinLog x) {
        text.append("link:");
        for (int i = 0; i < 17 && x.message(i, 0) != TwinLog.BAD; i++) {
            text.append(" (").append(x.message(i, 0)).append(' ').append(x.message(i, 1));
            text.append(' ').append(x.message(i, 2)).append(' ').append(x.message(i, 3)).append(')');
        }
    }
}
