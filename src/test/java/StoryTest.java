import java.util.Random;

/** What the document says of the whole: its first line, what AGREED means, and the 512 calls. */
public final class StoryTest {
    private static final int RUNS = 3000;
    private static final String STORY = "Two nodes that keep one log: the primary writes and ships, the other one "
        + "follows; messages are lost, nodes crash before a write, another one is promoted under a higher term, "
        + "and what has gone apart is cut and caught up";

    public static void main(String[] args) {
        Due due = new Due("StoryTest");
        due.sentence(STORY);
        story(due);
        for (int seed = 0; seed < RUNS; seed++) {
            caughtUp(due, seed);
        }
        due.sentence("entries up to it are known to it to be on both disks");
        for (int seed = 0; seed < RUNS; seed++) {
            agreedIsOnBothDisks(due, seed);
        }
        due.sentence("An object is used for at most 512 calls after it has been made");
        lastCallOf512(due);
        due.end();
    }

    private static void story(Due due) {
        TwinLog x = new TwinLog();
        due.is("the primary writes", x.put(0, 1, 10), 0);
        due.is("and ships", x.pump(), 1);
        due.is("the other one answers", x.pump(), 2);
        due.is("the other one follows", x.same(), 1);

        due.is("a put whose message", x.put(0, 2, 20), 1);
        due.is("is lost", x.drop(0), true);
        due.is("a fuse", x.fuse(0, 0), 1);
        due.is("crashes node 0 before a write", x.put(0, 3, 30), TwinLog.DOWN);
        due.log("that write is not done", x, 0, Runs.row(2, 1, 10), Runs.row(2, 2, 20));

        due.is("another one is promoted under a higher term", x.promote(1), 3);
        due.is("and writes", x.put(1, 4, 40), 1);
        due.is("and writes again", x.put(1, 5, 50), 2);
        due.is("its message for the node that is down is lost", x.pump(), 11);
        due.is("node 0 comes back with what it had", x.recover(0), 2);
        due.is("up to here they are the same", x.same(), 1);

        due.is("SHIP 2 tells of another entry 1", x.pump(), 1);
        due.log("so that is cut", x, 0, Runs.row(2, 1, 10));
        due.link("and asked for", x, Runs.row(3, 1, 3, 1));
        due.is("the WANT arrives", x.pump(), 3);
        due.is("SHIP 1 arrives", x.pump(), 1);
        due.is("ACK 1 arrives", x.pump(), 2);
        due.is("SHIP 2 arrives", x.pump(), 1);
        due.is("ACK 2 arrives", x.pump(), 2);
        due.is("nothing is left to be done", x.pump(), 0);
        due.log("caught up", x, 0, Runs.row(2, 1, 10), Runs.row(3, 4, 40), Runs.row(3, 5, 50));
        due.is("one log again", x.same(), 3);
        due.node("the primary knows it", x, 1, 3, 3, 1, 1, 2);
    }

    /**
     * Whatever has happened, a promotion, a put and a link that loses nothing make it one log again.
     * 120 calls, 72 at most to settle, 300 pumps and four looks stay below 512.
     */
    private static void caughtUp(Due due, int seed) {
        TwinLog x = new TwinLog();
        Random random = new Random(seed);
        for (int call = 0; call < 120; call++) {
            anything(x, random);
        }
        int node = random.nextInt(2);
        settleUnder(x, node);
        due.is("seed " + seed + ": put", x.put(node, 0, 0) >= 0, true);
        int pumped = 0;
        while (pumped < 300 && x.pump() != 0) {
            pumped++;
        }
        int length = x.told(node, 1);
        due.is("seed " + seed + ": same()", x.same(), length);
        due.is("seed " + seed + ": length of the other log", x.told(1 - node, 1), length);
        due.is("seed " + seed + ": AGREED", x.told(node, 4), length - 1);
    }

    /** Both up without a fuse, nothing on the link, and the node primary above the other one's term. */
    private static void settleUnder(TwinLog x, int node) {
        Runs.dropAll(x);
        for (int each = 0; each < 2; each++) {
            x.recover(each);
            x.fuse(each, -1);
        }
        int otherTerm = x.told(1 - node, 0);
        int tries = 0;
        while (tries < 50 && x.promote(node) < otherTerm) {
            tries++;
        }
    }

    private static void agreedIsOnBothDisks(Due due, int seed) {
        TwinLog x = new TwinLog();
        Random random = new Random(seed);
        for (int call = 0; call < 128; call++) {
            anything(x, random);
            int agreed = Math.max(x.told(0, 4), x.told(1, 4));
            due.is("seed " + seed + " call " + call + ": same() is above AGREED " + agreed, x.same() > agreed, true);
        }
    }

    private static void anything(TwinLog x, Random random) {
        int node = random.nextInt(2);
        switch (random.nextInt(24)) {
            case 0: x.crash(node); break;
            case 1: x.promote(node); break;
            case 2: x.fuse(node, random.nextInt(5)); break;
            case 3: x.drop(random.nextInt(3)); break;
            case 4:
            case 5:
            case 6: x.recover(node); break;
            case 7: x.rejoin(node); break;
            case 8:
            case 9:
            case 10:
            case 11:
            case 12:
            case 13: x.put(node, random.nextInt(16), random.nextInt(4)); break;
            default: x.pump(); break;
        }
    }

    /** 64 puts, each with two arrivals, are 192 calls; 319 looks stand between them and the last one. */
    private static void lastCallOf512(Due due) {
        TwinLog x = new TwinLog();
        for (int i = 0; i < 64; i++) {
            x.put(0, i % 16, i);
            x.pump();
            x.pump();
        }
        for (int call = 192; call < 511; call++) {
            due.is("call " + (call + 1), x.entry(1, call % 64, 2), call % 64);
        }
        due.is("the 512th call", x.same(), 64);
    }

    private StoryTest() {
    }
}
