/** The fuse at 0 and more and below 0, what is gone with the crash, and what the disk still has. */
public final class FuseEdgesTest {
    public static void main(String[] args) {
        Due due = new Due("FuseEdgesTest");
        puts(due);
        promotes(due);
        firstShip(due);
        shipOfAnotherTermBefore(due);
        shipOfAnotherEntry(due);
        shipToALongerLog(due);
        wantOfAGreaterTerm(due);
        below0IsNone(due);
        setAgain(due);
        noWriteBurnsNothing(due);
        refusedCallBurnsNothing(due);
        goneWithTheCrash(due);
        eachNodeHasItsOwn(due);
        due.end();
    }

    private static void puts(Due due) {
        due.sentence("the next n writes of that node are done, and before the one behind them it crashes");
        for (int n = 0; n <= 15; n++) {
            TwinLog x = new TwinLog();
            x.fuse(0, n);
            for (int i = 0; i < n; i++) {
                due.is("put within fuse " + n, x.put(0, i, i), i);
                due.is("what is left of fuse " + n, x.told(0, 5), n - 1 - i);
            }
            due.node("up with fuse " + n + " burnt down", x, 0, 2, n, 1, 1, -1, 0, n);
            due.is("put behind fuse " + n, x.put(0, 5, 50), TwinLog.DOWN);
            due.node("the disk stays as it was before that write", x, 0, 2, n, 0, 0, -1, -1, n);
            due.is("no entry", x.entry(0, n, 2), 0);
            due.is("what it was about to do is over: nothing is shipped", x.message(n, 0), TwinLog.BAD);
            due.is("what was sent before stays", x.message(n - 1, 3), n == 0 ? TwinLog.BAD : n - 1);
        }
    }

    private static void promotes(Due due) {
        due.sentence("the next n writes of that node are done, and before the one behind them it crashes");
        for (int node = 0; node < 2; node++) {
            for (int n = 0; n <= 3; n++) {
                TwinLog x = new TwinLog();
                x.fuse(node, n);
                int term = x.told(node, 0);
                for (int i = 0; i < n; i++) {
                    term = x.promote(node);
                }
                due.is("up with fuse " + n + " burnt down", x.told(node, 2), 1);
                due.is("promote behind fuse " + n, x.promote(node), TwinLog.DOWN);
                due.node("the term stays, it is no primary", x, node, term, 0, 0, 0, -1, -1, n);
            }
        }
    }

    /** The writes: a term, an entry. */
    private static void firstShip(Due due) {
        due.sentence("what it was about to do (and the message, if one brought it to that) is over");
        for (int n = 0; n <= 3; n++) {
            TwinLog x = new TwinLog();
            x.put(0, 5, 50);
            x.fuse(1, n);
            due.is("SHIP with fuse " + n, x.pump(), 1);
            if (n == 0) {
                due.node("before the term", x, 1, 0, 0, 0, 0, -1, -1, 0);
                due.link("the message is over, no answer", x);
            } else if (n == 1) {
                due.node("before the entry", x, 1, 2, 0, 0, 0, -1, -1, 1);
                due.link("the message is over, no answer", x);
            } else {
                due.node("all of it", x, 1, 2, 1, 1, 0, -1, n - 2, 2);
                due.link("ACK", x, Runs.row(2, 0, 2, 0));
            }
        }
    }

    /** The writes: a term, a cut. */
    private static void shipOfAnotherTermBefore(Due due) {
        due.sentence("what it was about to do (and the message, if one brought it to that) is over");
        for (int n = 0; n <= 3; n++) {
            TwinLog x = Runs.apartAtOne();
            Runs.dropAll(x);
            x.put(1, 9, 90);
            x.fuse(0, n);
            due.is("SHIP 2 with fuse " + n, x.pump(), 1);
            if (n < 2) {
                due.node("before the term or the cut", x, 0, 2 + n, 2, 0, 0, -1, -1, 2 + n);
                due.log("the log is whole", x, 0, Runs.row(2, 0, 100), Runs.row(2, 1, 101));
                due.link("no WANT", x);
            } else {
                due.node("all of it", x, 0, 3, 1, 1, 0, -1, n - 2, 4);
                due.link("WANT 1", x, Runs.row(3, 1, 3, 1));
            }
        }
    }

    /** The writes: a term, a cut, an entry. */
    private static void shipOfAnotherEntry(Due due) {
        due.sentence("the disk stays as it was before that write");
        for (int n = 0; n <= 4; n++) {
            TwinLog x = Runs.apartAtOne();
            x.fuse(0, n);
            due.is("SHIP 1 with fuse " + n, x.pump(), 1);
            if (n < 2) {
                due.node("before the term or the cut", x, 0, 2 + n, 2, 0, 0, -1, -1, 2 + n);
                due.log("the log is whole", x, 0, Runs.row(2, 0, 100), Runs.row(2, 1, 101));
                due.link("no ACK", x);
            } else if (n == 2) {
                due.node("before the entry", x, 0, 3, 1, 0, 0, -1, -1, 4);
                due.log("the log is cut and has not got the entry", x, 0, Runs.row(2, 0, 100));
                due.link("no ACK", x);
            } else {
                due.node("all of it", x, 0, 3, 2, 1, 0, -1, n - 3, 5);
                due.log("the log has the entry", x, 0, Runs.row(2, 0, 100), Runs.row(3, 8, 80));
                due.link("ACK 1", x, Runs.row(2, 1, 3, 1));
            }
        }
    }

    /** The write: a cut. */
    private static void shipToALongerLog(Due due) {
        due.sentence("the disk stays as it was before that write");
        for (int n = 0; n <= 2; n++) {
            TwinLog x = Runs.longerThanTold();
            x.fuse(0, n);
            due.is("SHIP 0 with fuse " + n, x.pump(), 1);
            if (n == 0) {
                due.node("before the cut", x, 0, 3, 3, 0, 0, -1, -1, 4);
                due.log("the log is whole", x, 0, Runs.row(2, 0, 100), Runs.row(2, 1, 101), Runs.row(2, 2, 102));
                due.link("no ACK", x);
            } else {
                due.node("all of it", x, 0, 3, 1, 1, 0, -1, n - 1, 5);
                due.link("ACK 0", x, Runs.row(2, 1, 3, 0));
            }
        }
    }

    /** The write: a term. */
    private static void wantOfAGreaterTerm(Due due) {
        due.sentence("what it was about to do (and the message, if one brought it to that) is over");
        for (int n = 0; n <= 1; n++) {
            TwinLog x = Runs.inStep(1);
            x.put(0, 5, 50);
            x.promote(1);
            x.pump();
            x.fuse(0, n);
            due.is("WANT -1 of term 3 with fuse " + n, x.pump(), n == 0 ? 3 : 23);
            due.node("fuse " + n, x, 0, 2 + n, 2, n, 0, -1, n - 1, 2 + n);
            due.link("the message is over", x);
        }
    }

    private static void below0IsNone(Due due) {
        due.sentence("below 0: none");
        int[] below = {-1, -2, -100, Integer.MIN_VALUE};
        for (int writes : below) {
            TwinLog x = new TwinLog();
            due.is("fuse(0, " + writes + ")", x.fuse(0, writes), 1);
            due.is("told(0, 5)", x.told(0, 5), -1);
            for (int i = 0; i < 5; i++) {
                due.is("put", x.put(0, i, i), i);
                due.is("told(0, 5)", x.told(0, 5), -1);
            }
        }
    }

    private static void setAgain(Due due) {
        due.sentence("A node's fuse is set to so many writes (0 and more); below 0: none");
        TwinLog x = new TwinLog();
        x.fuse(0, 0);
        due.is("taken away", x.fuse(0, -1), 1);
        due.is("put", x.put(0, 0, 0), 0);
        x.fuse(0, 1);
        x.put(0, 0, 0);
        due.is("burnt down and set again", x.fuse(0, 2), 1);
        due.is("it is not added", x.told(0, 5), 2);
        due.is("put", x.put(0, 0, 0), 2);
        due.is("put", x.put(0, 0, 0), 3);
        due.is("put", x.put(0, 0, 0), TwinLog.DOWN);
        TwinLog y = new TwinLog();
        due.is("the greatest", y.fuse(0, Integer.MAX_VALUE), 1);
        due.is("told(0, 5)", y.told(0, 5), Integer.MAX_VALUE);
        due.is("put", y.put(0, 0, 0), 0);
        due.is("told(0, 5)", y.told(0, 5), Integer.MAX_VALUE - 1);
    }

    /** A fuse of 0 stands, and what comes asks for no write: the node stays up. */
    private static void noWriteBurnsNothing(Due due) {
        due.sentence("WRITES to a disk are: an entry behind the log; the log cut to a length; another term");
        TwinLog x = new TwinLog();
        x.put(0, 1, 1);
        x.put(0, 2, 2);
        x.drop(1);
        x.pump();
        x.fuse(0, 0);
        due.is("ACK", x.pump(), 2);
        due.node("AGREED is no write", x, 0, 2, 2, 1, 1, 0, 0, 2);
        Runs.dropAll(x);
        x.rejoin(1);
        due.is("WANT", x.pump(), 3);
        due.node("to ship is no write", x, 0, 2, 2, 1, 1, 0, 0, 2);
        TwinLog y = Runs.inStep(2);
        y.rejoin(1);
        y.pump();
        y.fuse(1, 0);
        due.is("SHIP of what is there", y.pump(), 1);
        due.node("nothing to write", y, 1, 2, 2, 1, 0, -1, 0, 3);
        Runs.dropAll(y);
        Runs.putUnshipped(y, 0, 1);
        y.put(0, 5, 50);
        due.is("SHIP beyond the log", y.pump(), 1);
        due.node("nothing to write", y, 1, 2, 2, 1, 0, -1, 0, 3);
        due.link("WANT 2", y, Runs.row(3, 0, 2, 2));
        TwinLog z = Runs.inStep(1);
        z.put(0, 5, 50);
        z.promote(1);
        z.fuse(1, 0);
        due.is("SHIP of a lower term", z.pump(), 21);
        due.node("nothing to write", z, 1, 3, 1, 1, 1, -1, 0, 3);
        due.link("WANT -1", z, Runs.row(3, 0, 3, -1));
    }

    private static TwinLog fused(TwinLog x) {
        x.fuse(0, 0);
        x.fuse(1, 0);
        return x;
    }

    private static void refusedCallBurnsNothing(Due due) {
        due.sentence("FULL when the log has 64, or the link 16");
        due.refused("put to a full log", () -> fused(Runs.fullLog()), x -> x.put(0, 0, 0), TwinLog.FULL);
        due.refused("put to a full link", () -> fused(Runs.fullLink()), x -> x.put(0, 0, 0), TwinLog.FULL);
        due.sentence("NOT_SO when it is no primary");
        due.refused("put at no primary", () -> fused(new TwinLog()), x -> x.put(1, 0, 0), TwinLog.NOT_SO);
        due.sentence("BAD for another node or key");
        due.refused("put of another key", () -> fused(new TwinLog()), x -> x.put(0, 16, 0), TwinLog.BAD);
        due.sentence("DOWN when it is down");
        due.refused("put at a node that is down", () -> fused(Runs.bothDown()), x -> x.put(0, 0, 0), TwinLog.DOWN);
        due.refused("promote of a node that is down", () -> fused(Runs.bothDown()), x -> x.promote(0), TwinLog.DOWN);
        due.sentence("at a node that is down it is lost");
        TwinLog x = fused(Runs.bothDown());
        due.is("SHIP at a node that is down", x.pump(), 11);
        due.is("its fuse", x.told(1, 5), 0);
    }

    private static void goneWithTheCrash(Due due) {
        due.sentence("(the fuse is gone then)");
        TwinLog x = Runs.inStep(2);
        x.fuse(0, 0);
        due.is("put", x.put(0, 1, 1), TwinLog.DOWN);
        due.is("told(0, 5)", x.told(0, 5), -1);
        due.sentence("A node that goes down is no primary any more, and none when it comes up again");
        due.node("down", x, 0, 2, 2, 0, 0, -1, -1, 2);
        due.is("recover", x.recover(0), 2);
        due.node("up", x, 0, 2, 2, 1, 0, -1, -1, 2);
        due.is("put", x.put(0, 1, 1), TwinLog.NOT_SO);
        due.sentence("(without a fuse)");
        due.is("promote", x.promote(0), 4);
        due.is("put", x.put(0, 1, 1), 2);
        due.sentence("(its fuse is gone then, also when it was down)");
        TwinLog y = new TwinLog();
        y.fuse(0, 3);
        due.is("crash", y.crash(0), 1);
        due.is("told(0, 5)", y.told(0, 5), -1);
        y.fuse(0, 3);
        due.is("crash when down", y.crash(0), 0);
        due.is("told(0, 5)", y.told(0, 5), -1);
        due.sentence("A node comes up (without a fuse)");
        y.fuse(0, 0);
        due.is("recover", y.recover(0), 0);
        due.is("told(0, 5)", y.told(0, 5), -1);
        due.is("promote", y.promote(0), 4);
    }

    private static void eachNodeHasItsOwn(Due due) {
        due.sentence("the next n writes of that node");
        TwinLog x = new TwinLog();
        x.fuse(0, 3);
        x.fuse(1, 5);
        x.put(0, 1, 1);
        due.is("node 0 wrote an entry", x.told(0, 5), 2);
        due.is("node 1 wrote nothing", x.told(1, 5), 5);
        x.pump();
        due.is("node 0 wrote nothing", x.told(0, 5), 2);
        due.is("node 1 wrote a term and an entry", x.told(1, 5), 3);
    }
}
