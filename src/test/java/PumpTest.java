/** Promise 4; what an arriving message does stands in ArrivalTest. */
public final class PumpTest {
    public static void main(String[] args) {
        Due due = new Due("PumpTest");
        takesTheOldest(due);
        tellsThatTheNodeWasDown(due);
        tellsThatItWasLeft(due);
        tellsTheBareKindWhenTheNodeCrashesByIt(due);
        makesRoomBeforeTheAnswer(due);
        due.end();
    }

    private static void takesTheOldest(Due due) {
        TwinLog x = new TwinLog();
        due.is("empty link", x.pump(), 0);
        x.put(0, 1, 1);
        x.rejoin(1);
        due.is("SHIP", x.pump(), 1);
        due.is("WANT of a lower term", x.pump(), 23);
        due.is("ACK", x.pump(), 2);
        x.rejoin(1);
        due.is("WANT", x.pump(), 3);
        due.is("SHIP", x.pump(), 1);
        due.is("ACK", x.pump(), 2);
        due.is("empty again", x.pump(), 0);
    }

    private static void tellsThatTheNodeWasDown(Due due) {
        TwinLog x = Runs.inStep(1);
        x.put(0, 1, 1);
        x.crash(1);
        due.is("SHIP at a node that is down", x.pump(), 11);
        due.is("lost", x.pump(), 0);
        x.recover(1);
        x.put(0, 1, 1);
        x.pump();
        x.rejoin(1);
        x.crash(0);
        due.is("WANT at a node that is down", x.pump(), 13);
        due.is("WANT at a node that is down", x.pump(), 13);
        due.is("lost", x.pump(), 0);
        TwinLog y = new TwinLog();
        y.put(0, 1, 1);
        y.pump();
        y.crash(0);
        due.is("ACK at a node that is down", y.pump(), 12);
        due.is("its term is not looked at", y.told(0, 6), 1);
    }

    private static void tellsThatItWasLeft(Due due) {
        TwinLog x = Runs.inStep(1);
        x.put(0, 1, 1);
        x.promote(1);
        due.is("SHIP of a lower term", x.pump(), 21);
        due.is("WANT -1 at the old primary", x.pump(), 23);
        TwinLog y = Runs.inStep(1);
        y.put(0, 1, 1);
        y.pump();
        y.crash(0);
        y.recover(0);
        due.is("ACK at a node that is no primary", y.pump(), 22);
        y.rejoin(1);
        due.is("WANT at a node that is no primary", y.pump(), 23);
        TwinLog z = Runs.inStep(1);
        z.put(0, 1, 1);
        z.pump();
        z.promote(0);
        due.is("ACK of a lower term", z.pump(), 22);
        z.rejoin(1);
        due.is("WANT of a lower term", z.pump(), 23);
        due.is("only a SHIP is answered", z.pump(), 0);
        due.is("AGREED stays", z.told(0, 4), -1);
    }

    private static void tellsTheBareKindWhenTheNodeCrashesByIt(Due due) {
        TwinLog x = new TwinLog();
        x.put(0, 1, 1);
        x.fuse(1, 0);
        due.is("SHIP", x.pump(), 1);
        due.is("no answer", x.pump(), 0);
        TwinLog y = Runs.inStep(1);
        y.promote(1);
        y.crash(1);
        y.recover(1);
        y.rejoin(1);
        y.fuse(0, 0);
        due.is("WANT of a higher term", y.pump(), 3);
        due.node("crashed by it", y, 0, 2, 1, 0, 0, -1, -1, 1);
    }

    private static void makesRoomBeforeTheAnswer(Due due) {
        TwinLog x = Runs.fullLink();
        due.is("SHIP 0 of a full link", x.pump(), 1);
        due.is("its ACK is the last one", x.message(15, 0), 2);
        due.is("its ACK is the last one", x.message(15, 3), 0);
        due.is("the oldest one now", x.message(0, 3), 1);
    }
}
