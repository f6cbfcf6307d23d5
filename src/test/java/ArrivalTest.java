/** What the section "Terms" says of a message that arrives; promise 4 rests on it. */
public final class ArrivalTest {
    public static void main(String[] args) {
        Due due = new Due("ArrivalTest");
        shipIsPutBehind(due);
        shipOfWhatIsThereIsAcked(due);
        shipBeyondTheLogIsWanted(due);
        shipWithAnotherTermBeforeCuts(due);
        shipOfAnotherEntryReplaces(due);
        shipToALongerLogCutsIt(due);
        staleShipIsAnsweredByWantBelowZero(due);
        higherTermEndsThePrimary(due);
        ackMovesAgreedAndShipsTheNext(due);
        ackDoesNotMoveAgreedBack(due);
        wantShipsTheEntryOrTheLast(due);
        wantOfAnEmptyLog(due);
        longWayBack(due);
        shipKeepsWhatWasSent(due);
        due.end();
    }

    private static void shipIsPutBehind(Due due) {
        TwinLog x = new TwinLog();
        x.put(0, 3, 30);
        due.is("SHIP 0", x.pump(), 1);
        due.log("put behind", x, 1, Runs.row(2, 3, 30));
        due.node("term and entry are writes", x, 1, 2, 1, 1, 0, -1, -1, 2);
        due.link("ACK 0 under the new term", x, Runs.row(2, 0, 2, 0));
    }

    private static void shipOfWhatIsThereIsAcked(Due due) {
        TwinLog x = new TwinLog();
        x.put(0, 3, 30);
        x.put(0, 4, 40);
        x.pump();
        x.pump();
        x.pump();
        due.link("ACK 0 shipped entry 1 again", x, Runs.row(2, 0, 2, 1), Runs.row(1, 1, 2, 1));
        x.pump();
        due.is("SHIP 1 again", x.pump(), 1);
        due.node("no write", x, 1, 2, 2, 1, 0, -1, -1, 3);
        due.link("acked again", x, Runs.row(2, 0, 2, 1));
    }

    private static void shipBeyondTheLogIsWanted(Due due) {
        TwinLog x = Runs.inStep(1);
        Runs.putUnshipped(x, 0, 2);
        x.put(0, 5, 50);
        due.is("SHIP 3 at length 1", x.pump(), 1);
        due.link("WANT 1", x, Runs.row(3, 0, 2, 1));
        due.node("no write", x, 1, 2, 1, 1, 0, -1, -1, 2);
        Runs.pumpAll(x);
        due.is("caught up", x.same(), 4);
        TwinLog y = Runs.inStep(1);
        Runs.putUnshipped(y, 0, 1);
        y.put(0, 5, 50);
        y.pump();
        due.link("length one less than the number", y, Runs.row(3, 0, 2, 1));
        due.node("no write either", y, 1, 2, 1, 1, 0, -1, -1, 2);
    }

    private static void shipWithAnotherTermBeforeCuts(Due due) {
        TwinLog x = Runs.apartAtOne();
        Runs.dropAll(x);
        x.put(1, 9, 90);
        due.is("SHIP 2 at length 2", x.pump(), 1);
        due.node("cut to 1", x, 0, 3, 1, 1, 0, -1, -1, 4);
        due.link("WANT 1", x, Runs.row(3, 1, 3, 1));
        Runs.pumpAll(x);
        due.log("caught up", x, 0, Runs.row(2, 0, 100), Runs.row(3, 8, 80), Runs.row(3, 9, 90));
        due.is("AGREED", x.told(1, 4), 2);
    }

    private static void shipOfAnotherEntryReplaces(Due due) {
        TwinLog x = Runs.apartAtOne();
        Runs.putUnshipped(x, 0, 2);
        due.is("log before", x.told(0, 1), 4);
        due.is("SHIP 1", x.pump(), 1);
        due.log("entry 1 replaced, all behind it gone", x, 0, Runs.row(2, 0, 100), Runs.row(3, 8, 80));
        due.is("writes: four entries, a term, a cut, an entry", x.told(0, 6), 7);
        due.link("ACK 1", x, Runs.row(2, 1, 3, 1));
    }

    private static void shipToALongerLogCutsIt(Due due) {
        TwinLog x = Runs.longerThanTold();
        due.link("SHIP 0 of a log of length 1", x, Runs.row(1, 0, 3, 0));
        due.is("log before", x.told(0, 1), 3);
        due.is("SHIP 0", x.pump(), 1);
        due.node("cut to 1", x, 0, 3, 1, 1, 0, -1, -1, 5);
        due.link("ACK 0", x, Runs.row(2, 1, 3, 0));
        Runs.pumpAll(x);
        due.is("AGREED", x.told(1, 4), 0);
        due.is("same()", x.same(), 1);
    }

    private static void staleShipIsAnsweredByWantBelowZero(Due due) {
        TwinLog x = Runs.inStep(1);
        x.put(0, 5, 50);
        x.promote(1);
        due.is("SHIP of term 2 at term 3", x.pump(), 21);
        due.link("WANT -1", x, Runs.row(3, 0, 3, -1));
        due.node("no write", x, 1, 3, 1, 1, 1, -1, -1, 3);
        TwinLog y = Runs.inStep(1);
        y.put(0, 5, 50);
        y.promote(1);
        y.crash(1);
        y.recover(1);
        due.is("also at a node that is no primary", y.pump(), 21);
        due.link("WANT -1", y, Runs.row(3, 0, 3, -1));
    }

    private static void higherTermEndsThePrimary(Due due) {
        TwinLog x = Runs.inStep(1);
        x.promote(1);
        x.put(1, 5, 50);
        due.is("SHIP of term 3 at the primary of term 2", x.pump(), 1);
        due.node("it follows", x, 0, 3, 2, 1, 0, -1, -1, 3);
        TwinLog y = Runs.inStep(1);
        y.put(0, 5, 50);
        y.promote(1);
        y.pump();
        due.is("WANT -1 of term 3 at the primary of term 2", y.pump(), 23);
        due.node("it steps down", y, 0, 3, 2, 1, 0, -1, -1, 3);
        due.link("and sends nothing", y);
        TwinLog z = Runs.inStep(1);
        z.promote(1);
        z.crash(1);
        z.recover(1);
        z.rejoin(1);
        due.is("WANT 1 of term 3 at the primary of term 2", z.pump(), 23);
        due.node("it steps down", z, 0, 3, 1, 1, 0, -1, -1, 2);
        due.is("and puts no more", z.put(0, 1, 1), TwinLog.NOT_SO);
    }

    private static void ackMovesAgreedAndShipsTheNext(Due due) {
        TwinLog x = new TwinLog();
        x.put(0, 1, 10);
        x.put(0, 2, 20);
        x.drop(1);
        x.pump();
        due.is("AGREED before", x.told(0, 4), -1);
        due.is("ACK 0", x.pump(), 2);
        due.is("AGREED", x.told(0, 4), 0);
        due.link("SHIP 1", x, Runs.row(1, 1, 2, 1));
        x.pump();
        due.is("ACK 1", x.pump(), 2);
        due.is("AGREED", x.told(0, 4), 1);
        due.link("nothing behind the last", x);
        due.is("no write", x.told(0, 6), 2);
    }

    private static void ackDoesNotMoveAgreedBack(Due due) {
        TwinLog x = new TwinLog();
        for (int i = 0; i < 3; i++) {
            x.put(0, i, i);
        }
        for (int i = 0; i < 6; i++) {
            x.pump();
        }
        due.link("each ACK shipped the next one again", x, Runs.row(1, 1, 2, 1), Runs.row(1, 1, 2, 2));
        due.is("AGREED", x.told(0, 4), 2);
        x.pump();
        due.node("SHIP 1 of a log of length 3 cuts nothing", x, 1, 2, 3, 1, 0, -1, -1, 4);
        x.pump();
        due.is("ACK 1 again", x.pump(), 2);
        due.is("AGREED stays", x.told(0, 4), 2);
        due.link("and still the next one is shipped", x, Runs.row(2, 0, 2, 2), Runs.row(1, 1, 2, 2));
    }

    private static void wantShipsTheEntryOrTheLast(Due due) {
        TwinLog x = Runs.inStep(3);
        x.rejoin(1);
        due.is("WANT 3 of a log of length 3", x.pump(), 3);
        due.link("the last one is shipped", x, Runs.row(1, 1, 2, 2));
        Runs.pumpAll(x);
        Runs.putUnshipped(x, 0, 2);
        x.rejoin(1);
        due.is("WANT 3 of a log of length 5", x.pump(), 3);
        due.link("entry 3 is shipped", x, Runs.row(1, 1, 2, 3));
        TwinLog y = Runs.longerThanTold();
        due.link("WANT 3 of a log of length 1", y, Runs.row(1, 0, 3, 0));
        TwinLog z = new TwinLog();
        Runs.putUnshipped(z, 0, 1);
        z.put(0, 1, 10);
        z.pump();
        due.link("the empty log wants number 0", z, Runs.row(3, 0, 2, 0));
        due.is("WANT 0", z.pump(), 3);
        due.link("entry 0 is shipped", z, Runs.row(1, 1, 2, 0));
    }

    private static void wantOfAnEmptyLog(Due due) {
        TwinLog x = new TwinLog();
        x.promote(1);
        x.promote(1);
        x.put(0, 1, 1);
        x.pump();
        x.pump();
        Runs.dropAll(x);
        due.node("node 0 has the term of node 1", x, 0, 3, 1, 1, 0);
        x.rejoin(0);
        due.is("WANT 1 at an empty log", x.pump(), 3);
        due.link("nothing to ship", x);
    }

    /** Logs that have gone apart over several terms come together entry by entry. */
    private static void longWayBack(Due due) {
        TwinLog x = Runs.inStep(2);
        Runs.putUnshipped(x, 0, 3);
        x.crash(0);
        x.promote(1);
        Runs.putUnshipped(x, 1, 1);
        x.promote(1);
        Runs.putUnshipped(x, 1, 3);
        x.recover(0);
        x.put(1, 9, 90);
        Runs.pumpAll(x);
        due.is("same()", x.same(), 7);
        due.node("follower", x, 0, 5, 7, 1, 0);
        due.node("primary", x, 1, 5, 7, 1, 1, 6);
        due.log("terms kept", x, 0, Runs.row(2, 0, 100), Runs.row(2, 1, 101), Runs.row(3, 2, 102),
                Runs.row(5, 3, 103), Runs.row(5, 4, 104), Runs.row(5, 5, 105), Runs.row(5, 9, 90));
    }

    /** What a SHIP tells is what the sender had when it was sent. */
    private static void shipKeepsWhatWasSent(Due due) {
        TwinLog x = Runs.inStep(1);
        x.put(0, 5, 50);
        x.crash(0);
        x.recover(0);
        due.is("SHIP 1", x.pump(), 1);
        due.log("arrived", x, 1, Runs.row(2, 0, 100), Runs.row(2, 5, 50));
    }
}
