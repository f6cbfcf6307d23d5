/** "THE LINK has at most 16 MESSAGES, the oldest first": a link with no message, with one, with 16. */
public final class LinkEdgesTest {
    public static void main(String[] args) {
        Due due = new Due("LinkEdgesTest");
        noMessage(due);
        oneMessage(due);
        fullLinkRefuses(due);
        fullLinkLosesNothing(due);
        roomAfterADrop(due);
        roomAfterALoss(due);
        goesRoundAndRound(due);
        due.end();
    }

    private static void noMessage(Due due) {
        due.sentence("0 when there is none");
        due.refused("pump()", TwinLog::new, x -> x.pump(), 0);
        due.refused("pump() with entries in the logs", () -> Runs.inStep(2), x -> x.pump(), 0);
        due.sentence("whether there was one");
        due.refused("drop(0)", TwinLog::new, x -> x.drop(0) ? 1 : 0, 0);
        due.sentence("BAD when there is none such");
        for (int what = 0; what < 4; what++) {
            int w = what;
            due.refused("message(0, " + w + ")", TwinLog::new, x -> x.message(0, w), TwinLog.BAD);
        }
    }

    private static void oneMessage(Due due) {
        TwinLog x = new TwinLog();
        x.put(0, 1, 1);
        due.sentence("BAD when there is none such");
        due.link("one", x, Runs.row(1, 1, 2, 0));
        due.sentence("Message i (from 0, the oldest) is lost: whether there was one");
        due.is("drop(1)", x.drop(1), false);
        due.link("one", x, Runs.row(1, 1, 2, 0));
        due.is("drop(0)", x.drop(0), true);
        due.link("none", x);
        due.is("drop(0) again", x.drop(0), false);
        due.sentence("The oldest message arrives: its kind");
        x.put(0, 2, 2);
        due.is("pump()", x.pump(), 1);
        due.link("its answer alone", x, Runs.row(3, 0, 2, 0));
    }

    private static void fullLinkRefuses(Due due) {
        due.sentence("FULL when the log has 64, or the link 16");
        due.refused("put", Runs::fullLink, x -> x.put(0, 0, 0), TwinLog.FULL);
        due.sentence("FULL when the link is");
        due.refused("rejoin(1)", Runs::fullLink, x -> x.rejoin(1), TwinLog.FULL);
        due.sentence("THE LINK has at most 16 MESSAGES");
        TwinLog x = Runs.fullLink();
        due.is("message 15", x.message(15, 3), 15);
        due.is("message 16", x.message(16, 3), TwinLog.BAD);
        due.is("drop(16)", x.drop(16), false);
        due.is("promote sends nothing and is not refused", x.promote(0), 4);
        due.is("nor is a crash", x.crash(0), 1);
        due.is("nor a recover", x.recover(0), 16);
        due.is("rejoin(0)", x.rejoin(0), TwinLog.FULL);
    }

    /**
     * "One that is sent to a full link is lost" is out of reach: put and rejoin refuse, and a message
     * that arrives leaves room for the one answer that it can bring. So the answer must not be lost.
     */
    private static void fullLinkLosesNothing(Due due) {
        due.sentence("One that is sent to a full link is lost");
        TwinLog x = Runs.fullLink();
        for (int i = 0; i < 16; i++) {
            due.is("pump", x.pump(), 1);
            due.is("the oldest now", x.message(0, 0), i < 15 ? 1 : 2);
            due.is("its number", x.message(0, 3), i < 15 ? i + 1 : 0);
            due.is("the answer is the last one", x.message(15, 0), 2);
            due.is("its number", x.message(15, 3), i);
            due.is("and there are 16", x.message(16, 0), TwinLog.BAD);
        }
        due.is("put", x.put(0, 0, 0), TwinLog.FULL);
        due.is("ACK 0", x.pump(), 2);
        due.is("the entry behind is the last one", x.message(15, 0), 1);
        due.is("its number", x.message(15, 3), 1);
        TwinLog y = Runs.fullLink();
        y.promote(1);
        y.promote(1);
        due.is("SHIP of a lower term", y.pump(), 21);
        due.is("WANT -1 is the last one", y.message(15, 0), 3);
        due.is("its number", y.message(15, 3), -1);
        TwinLog z = new TwinLog();
        Runs.putUnshipped(z, 0, 1);
        for (int i = 0; i < 16; i++) {
            z.put(0, 1, 1);
        }
        due.is("SHIP 1 at an empty log", z.pump(), 1);
        due.is("WANT 0 is the last one", z.message(15, 0), 3);
        due.is("its number", z.message(15, 3), 0);
    }

    private static void roomAfterADrop(Due due) {
        due.sentence("FULL when the log has 64, or the link 16");
        for (int i = 0; i < 16; i++) {
            TwinLog x = Runs.fullLink();
            due.is("drop(" + i + ")", x.drop(i), true);
            due.is("message 15", x.message(15, 0), TwinLog.BAD);
            for (int k = 0; k < 15; k++) {
                due.is("the order of the rest", x.message(k, 3), k < i ? k : k + 1);
            }
            due.is("put", x.put(0, 3, 33), 16);
            due.is("the last one", x.message(15, 3), 16);
            due.is("full again", x.put(0, 3, 33), TwinLog.FULL);
        }
    }

    private static void roomAfterALoss(Due due) {
        due.sentence("at a node that is down it is lost");
        TwinLog x = Runs.fullLink();
        x.crash(1);
        due.is("pump", x.pump(), 11);
        due.is("15 are left", x.message(15, 0), TwinLog.BAD);
        due.is("put", x.put(0, 3, 33), 16);
        due.is("16 again", x.message(15, 3), 16);
        for (int i = 0; i < 16; i++) {
            due.is("pump", x.pump(), 11);
        }
        due.is("none is left", x.pump(), 0);
    }

    /** More messages than the link has places pass through it, from any of its places on. */
    private static void goesRoundAndRound(Due due) {
        due.sentence("the oldest first");
        for (int kept = 1; kept <= 16; kept++) {
            TwinLog x = new TwinLog();
            for (int i = 0; i < 40; i++) {
                due.is("put", x.put(0, i % 16, 100 + i), i);
                if (i >= kept - 1) {
                    due.is("the oldest", x.message(0, 3), i - kept + 1);
                    due.is("the newest", x.message(kept - 1, 3), i);
                    due.is("none behind it", x.message(kept, 3), TwinLog.BAD);
                    due.is("drop(0)", x.drop(0), true);
                }
            }
        }
    }
}
