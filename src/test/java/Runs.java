/** Runs of calls that many tests begin with. */
final class Runs {
    static final int[] WRONG_NODES = {-1, 2, 3, Integer.MIN_VALUE, Integer.MAX_VALUE};
    static final int[] WRONG_KEYS = {-1, 16, 17, Integer.MIN_VALUE, Integer.MAX_VALUE};

    private Runs() {
    }

    static int[] row(int... values) {
        return values;
    }

    /** Pumps until the link is empty; no run of the tests needs more than a hundred. */
    static void pumpAll(TwinLog x) {
        int pumped = 0;
        while (pumped < 100 && x.pump() != 0) {
            pumped++;
        }
    }

    static void dropAll(TwinLog x) {
        int dropped = 0;
        while (dropped < 16 && x.drop(0)) {
            dropped++;
        }
    }

    /** Looks from the oldest on, since links of the tests are short and an object has but 512 calls. */
    static void dropNewest(TwinLog x) {
        int count = 0;
        while (count < 16 && x.message(count, 0) != TwinLog.BAD) {
            count++;
        }
        x.drop(count - 1);
    }

    /** Puts (i % 16, 100 + i) for i from the log's length on; what they ship is lost. */
    static void putUnshipped(TwinLog x, int node, int count) {
        for (int k = 0; k < count; k++) {
            int i = x.told(node, 1);
            x.put(node, i % 16, 100 + i);
            dropNewest(x);
        }
    }

    /** Both logs with the same entries of term 2, node 0 primary, nothing on the link. */
    static TwinLog inStep(int entries) {
        TwinLog x = new TwinLog();
        for (int i = 0; i < entries; i++) {
            x.put(0, i % 16, 100 + i);
            pumpAll(x);
        }
        return x;
    }

    /** Sixteen puts of node 0, none of which has arrived. */
    static TwinLog fullLink() {
        TwinLog x = new TwinLog();
        for (int i = 0; i < 16; i++) {
            x.put(0, i, i);
        }
        return x;
    }

    /** Node 0 has 64 entries, of which node 1 has none; nothing on the link. */
    static TwinLog fullLog() {
        TwinLog x = new TwinLog();
        for (int i = 0; i < 64; i++) {
            x.put(0, i % 16, 100 + i);
            x.drop(0);
        }
        return x;
    }

    /** Both nodes have gone down, node 0 with two entries more than node 1 and one SHIP on the link. */
    static TwinLog bothDown() {
        TwinLog x = inStep(2);
        x.put(0, 7, 70);
        x.drop(0);
        x.put(0, 8, 80);
        x.crash(0);
        x.crash(1);
        return x;
    }

    /** Node 0 holds an entry 1 of term 2; node 1 has put another one there under term 3 and ships it. */
    static TwinLog apartAtOne() {
        TwinLog x = inStep(1);
        putUnshipped(x, 0, 1);
        x.promote(1);
        x.put(1, 8, 80);
        return x;
    }

    /**
     * Node 0 has three entries and, by a WANT -1, term 3; node 1, the primary of that term, has the
     * first of them alone and ships it, with a told length of 1: that message is alone on the link.
     */
    static TwinLog longerThanTold() {
        TwinLog x = inStep(1);
        putUnshipped(x, 0, 1);
        x.put(0, 2, 102);
        x.promote(1);
        x.pump();
        x.pump();
        x.rejoin(0);
        x.pump();
        return x;
    }
}
