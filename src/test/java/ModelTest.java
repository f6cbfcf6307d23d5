import java.util.Random;

/** All promises together: long runs of calls, with fixed seeds, each answer held against the model's. */
public final class ModelTest {
    private static final int CALLS = 512;
    private static final int RUNS_OF_A_MOOD = 2000;

    /** How often each call comes: put, pump, drop, fuse, crash, recover, promote, rejoin. */
    private static final int[][] MOODS = {
        {30, 50, 5, 1, 1, 5, 1, 5},
        {20, 40, 5, 4, 3, 8, 3, 8},
        {40, 20, 3, 1, 1, 6, 2, 6},
        {25, 45, 30, 2, 2, 8, 4, 8},
        {30, 60, 2, 12, 1, 20, 6, 10},
        {60, 130, 0, 0, 0, 1, 1, 1},
        {10, 10, 5, 10, 10, 10, 10, 10},
    };

    private final Due due;
    private final Random random;
    private TwinLog program;
    private Model model;

    private ModelTest(Due due, long seed) {
        this.due = due;
        this.random = new Random(seed);
    }

    public static void main(String[] args) {
        Due due = new Due("ModelTest");
        for (int mood = 0; mood < MOODS.length; mood++) {
            for (int run = 0; run < RUNS_OF_A_MOOD; run++) {
                new ModelTest(due, 1000003L * mood + run).oneRun("mood " + mood + " run " + run, MOODS[mood]);
            }
        }
        due.end();
    }

    /** A look is a call too, and what an object answers after 512 of them is free. */
    private void oneRun(String name, int[] mood) {
        program = new TwinLog();
        model = new Model();
        int sum = 0;
        for (int weight : mood) {
            sum += weight;
        }
        int looksOutOfTen = 1 + random.nextInt(6);
        for (int call = 0; call < CALLS; call++) {
            String at = name + " call " + call + ": ";
            if (random.nextInt(10) < looksOutOfTen) {
                look(at);
            } else {
                act(at, pick(mood, random.nextInt(sum)));
            }
        }
    }

    private static int pick(int[] mood, int at) {
        int rest = at;
        for (int i = 0; i < mood.length; i++) {
            rest -= mood[i];
            if (rest < 0) {
                return i;
            }
        }
        return mood.length - 1;
    }

    private int node() {
        return random.nextInt(60) == 0 ? wild() : random.nextInt(2);
    }

    private int wild() {
        int[] edges = {-1, 2, 7, 16, 64, Integer.MIN_VALUE, Integer.MAX_VALUE};
        return random.nextInt(4) == 0 ? random.nextInt() : edges[random.nextInt(edges.length)];
    }

    private int orWild(int value) {
        return random.nextInt(60) == 0 ? wild() : value;
    }

    private void act(String at, int which) {
        int n = node();
        switch (which) {
            case 0: {
                int key = orWild(random.nextInt(16));
                int value = random.nextInt(3) == 0 ? random.nextInt() : random.nextInt(3);
                due.is(at + "put(" + n + ", " + key + ", " + value + ")", program.put(n, key, value), model.put(n, key, value));
                break;
            }
            case 1: due.is(at + "pump()", program.pump(), model.pump()); break;
            case 2: {
                int i = orWild(random.nextInt(17));
                due.is(at + "drop(" + i + ")", program.drop(i), model.drop(i));
                break;
            }
            case 3: {
                int writes = orWild(random.nextInt(7) - 1);
                due.is(at + "fuse(" + n + ", " + writes + ")", program.fuse(n, writes), model.fuse(n, writes));
                break;
            }
            case 4: due.is(at + "crash(" + n + ")", program.crash(n), model.crash(n)); break;
            case 5: due.is(at + "recover(" + n + ")", program.recover(n), model.recover(n)); break;
            case 6: due.is(at + "promote(" + n + ")", program.promote(n), model.promote(n)); break;
            default: due.is(at + "rejoin(" + n + ")", program.rejoin(n), model.rejoin(n)); break;
        }
    }

    private void look(String at) {
        int n = node();
        int i = orWild(random.nextInt(1 + Math.min(64, 2 + Math.max(model.told(0, 1), model.told(1, 1)))));
        int m = orWild(random.nextInt(17));
        int key = orWild(random.nextInt(16));
        int what = orWild(random.nextInt(4));
        int told = orWild(random.nextInt(7));
        switch (random.nextInt(8)) {
            case 0: due.is(at + "same()", program.same(), model.same()); break;
            case 1: due.is(at + "get(" + n + ", " + key + ")", program.get(n, key), model.get(n, key)); break;
            case 2:
            case 3: due.is(at + "entry(" + n + ", " + i + ", " + what + ")", program.entry(n, i, what), model.entry(n, i, what)); break;
            case 4: due.is(at + "message(" + m + ", " + what + ")", program.message(m, what), model.message(m, what)); break;
            default: due.is(at + "told(" + n + ", " + told + ")", program.told(n, told), model.told(n, told)); break;
        }
    }
}
