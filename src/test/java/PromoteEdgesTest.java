/** The term of a promotion, for either node from an even and an odd term. */
public final class PromoteEdgesTest {
    private static final String LEAST = "the least term that is above its own and, halved, leaves the node's number";

    public static void main(String[] args) {
        Due due = new Due("PromoteEdgesTest");
        node0FromEven(due);
        node0FromOdd(due);
        node1FromEven(due);
        node1FromOdd(due);
        oneAfterTheOther(due);
        isAWriteAndNothingElse(due);
        agreedIsGone(due);
        longLadder(due);
        due.end();
    }

    private static void node0FromEven(Due due) {
        due.sentence(LEAST);
        TwinLog x = new TwinLog();
        due.is("from 2", x.promote(0), 4);
        due.is("from 4", x.promote(0), 6);
        due.is("told(0, 0)", x.told(0, 0), 6);
    }

    private static void node0FromOdd(Due due) {
        due.sentence(LEAST);
        TwinLog x = Runs.apartAtOne();
        x.pump();
        due.is("term", x.told(0, 0), 3);
        due.is("from 3", x.promote(0), 4);
        TwinLog y = new TwinLog();
        y.put(0, 1, 1);
        y.promote(1);
        y.promote(1);
        y.promote(1);
        y.pump();
        y.pump();
        due.is("term", y.told(0, 0), 5);
        due.is("from 5", y.promote(0), 6);
    }

    private static void node1FromEven(Due due) {
        due.sentence(LEAST);
        due.is("from 0", new TwinLog().promote(1), 1);
        due.is("from 2", Runs.inStep(1).promote(1), 3);
        TwinLog x = Runs.inStep(1);
        x.promote(0);
        x.put(0, 1, 1);
        x.pump();
        due.is("term", x.told(1, 0), 4);
        due.is("from 4", x.promote(1), 5);
    }

    private static void node1FromOdd(Due due) {
        due.sentence(LEAST);
        TwinLog x = new TwinLog();
        x.promote(1);
        due.is("from 1", x.promote(1), 3);
        due.is("from 3", x.promote(1), 5);
        x.crash(1);
        x.recover(1);
        due.is("from 5, come up again", x.promote(1), 7);
    }

    /** It looks at the node's own term alone: the other one's may be the greater. */
    private static void oneAfterTheOther(Due due) {
        due.sentence(LEAST);
        TwinLog x = new TwinLog();
        due.is("node 1 from 0, node 0 has 2", x.promote(1), 1);
        due.is("node 0 from 2", x.promote(0), 4);
        due.is("node 1 from 1, node 0 has 4", x.promote(1), 3);
        due.is("node 1 from 3, node 0 has 4", x.promote(1), 5);
        due.is("node 0 from 4, node 1 has 5", x.promote(0), 6);
    }

    private static void isAWriteAndNothingElse(Due due) {
        due.sentence("(a write), and is primary, with AGREED -1: that term");
        TwinLog x = Runs.inStep(2);
        x.fuse(1, 4);
        due.is("promote(1)", x.promote(1), 3);
        due.node("node 1", x, 1, 3, 2, 1, 1, -1, 3, 4);
        due.node("node 0 is not told", x, 0, 2, 2, 1, 1, 1, -1, 2);
        due.log("no entry", x, 1, Runs.row(2, 0, 100), Runs.row(2, 1, 101));
        due.link("no message", x);
    }

    private static void agreedIsGone(Due due) {
        due.sentence("with AGREED -1");
        TwinLog x = Runs.inStep(2);
        due.is("AGREED", x.told(0, 4), 1);
        due.is("promoted while primary", x.promote(0), 4);
        due.is("AGREED", x.told(0, 4), -1);
        TwinLog y = Runs.inStep(2);
        y.crash(0);
        due.is("down", y.told(0, 4), -1);
        y.recover(0);
        due.is("up", y.told(0, 4), -1);
        y.promote(0);
        due.is("promoted", y.told(0, 4), -1);
        TwinLog z = Runs.inStep(2);
        z.promote(1);
        z.put(1, 1, 1);
        z.pump();
        due.is("stepped down", z.told(0, 4), -1);
        z.promote(0);
        due.is("promoted", z.told(0, 4), -1);
    }

    private static void longLadder(Due due) {
        due.sentence(LEAST);
        for (int node = 0; node < 2; node++) {
            TwinLog x = new TwinLog();
            for (int i = 1; i <= 500; i++) {
                due.is("promote " + i, x.promote(node), node == 0 ? 2 + 2 * i : 2 * i - 1);
            }
            due.is("writes", x.told(node, 6), 500);
        }
    }
}
