/** A message that arrives at a node that is down, and with a term less than, the same as and greater than its own. */
public final class TermEdgesTest {
    public static void main(String[] args) {
        Due due = new Due("TermEdgesTest");
        down(due);
        downByItsFuse(due);
        shipOfALesserTerm(due);
        ackOfALesserTerm(due);
        wantOfALesserTerm(due);
        sameTerm(due);
        shipOfAGreaterTerm(due);
        wantOfAGreaterTerm(due);
        atNoPrimary(due);
        due.end();
    }

    private static void down(Due due) {
        due.sentence("at a node that is down it is lost");
        TwinLog ship = Runs.apartAtOne();
        ship.crash(0);
        due.is("SHIP of a greater term", ship.pump(), 11);
        due.node("nothing is written", ship, 0, 2, 2, 0, 0, -1, -1, 2);
        due.link("no answer", ship);
        ship.recover(0);
        due.is("nothing comes later", ship.pump(), 0);
        TwinLog ack = Runs.inStep(1);
        ack.put(0, 5, 50);
        ack.pump();
        ack.crash(0);
        due.is("ACK", ack.pump(), 12);
        due.link("no answer", ack);
        TwinLog want = Runs.inStep(1);
        want.rejoin(1);
        want.crash(0);
        due.is("WANT", want.pump(), 13);
        due.link("no answer", want);
        TwinLog lesser = Runs.inStep(1);
        lesser.put(0, 5, 50);
        lesser.promote(1);
        lesser.crash(1);
        due.sentence("10 more when its node was down, 20 more when it was left");
        due.is("SHIP of a lesser term", lesser.pump(), 11);
        due.link("no WANT -1", lesser);
    }

    private static void downByItsFuse(Due due) {
        due.sentence("10 more when its node was down");
        TwinLog x = new TwinLog();
        x.put(0, 1, 1);
        x.put(0, 2, 2);
        x.fuse(1, 0);
        due.is("it goes down by this one: it was up", x.pump(), 1);
        due.is("it was down", x.pump(), 11);
    }

    private static void shipOfALesserTerm(Due due) {
        due.sentence("If its term is less than the node's, it is left; but a SHIP is answered by WANT -1");
        TwinLog x = Runs.inStep(1);
        x.put(0, 5, 50);
        x.promote(1);
        due.is("SHIP of term 2 at the primary of term 3", x.pump(), 21);
        due.node("nothing is written", x, 1, 3, 1, 1, 1, -1, -1, 3);
        due.link("WANT -1", x, Runs.row(3, 0, 3, -1));
        TwinLog y = Runs.inStep(1);
        y.put(0, 5, 50);
        y.promote(1);
        y.crash(1);
        y.recover(1);
        due.is("SHIP of term 2 at a follower of term 3", y.pump(), 21);
        due.node("nothing is written", y, 1, 3, 1, 1, 0, -1, -1, 3);
        due.link("WANT -1", y, Runs.row(3, 0, 3, -1));
        TwinLog z = Runs.inStep(1);
        z.promote(1);
        z.put(1, 5, 50);
        z.promote(0);
        due.is("SHIP of term 3 at the primary of term 4", z.pump(), 21);
        due.node("nothing is written", z, 0, 4, 1, 1, 1, -1, -1, 2);
        due.link("WANT -1", z, Runs.row(3, 1, 4, -1));
    }

    private static void ackOfALesserTerm(Due due) {
        due.sentence("If its term is less than the node's, it is left");
        TwinLog x = new TwinLog();
        x.put(0, 1, 1);
        x.put(0, 2, 2);
        x.drop(1);
        x.pump();
        x.promote(0);
        due.is("ACK of term 2 at the primary of term 4", x.pump(), 22);
        due.node("AGREED stays", x, 0, 4, 2, 1, 1, -1, -1, 3);
        due.link("nothing is shipped, and no WANT", x);
    }

    private static void wantOfALesserTerm(Due due) {
        due.sentence("If its term is less than the node's, it is left");
        TwinLog x = Runs.inStep(1);
        Runs.putUnshipped(x, 0, 1);
        x.promote(0);
        x.rejoin(1);
        due.is("WANT of term 2 at the primary of term 4", x.pump(), 23);
        due.node("as before", x, 0, 4, 2, 1, 1, -1, -1, 3);
        due.link("nothing is shipped, and no WANT", x);
        TwinLog y = new TwinLog();
        y.put(0, 1, 1);
        y.drop(0);
        y.rejoin(1);
        due.is("WANT of term 0 at the primary of term 2", y.pump(), 23);
        due.link("nothing is shipped, and no WANT", y);
    }

    private static void sameTerm(Due due) {
        due.sentence("If it is greater, the node's term becomes that (a write)");
        TwinLog x = Runs.inStep(1);
        x.put(0, 5, 50);
        due.is("SHIP of the same term", x.pump(), 1);
        due.node("the entry is the one write", x, 1, 2, 2, 1, 0, -1, -1, 3);
        due.is("ACK of the same term", x.pump(), 2);
        due.node("it stays primary, nothing is written", x, 0, 2, 2, 1, 1, 1, -1, 2);
        x.rejoin(1);
        due.is("WANT of the same term", x.pump(), 3);
        due.node("it stays primary, nothing is written", x, 0, 2, 2, 1, 1, 1, -1, 2);
    }

    private static void shipOfAGreaterTerm(Due due) {
        due.sentence("If it is greater, the node's term becomes that (a write), and it is no primary any more");
        TwinLog x = Runs.inStep(1);
        x.promote(1);
        x.put(1, 5, 50);
        due.is("SHIP of term 3 at the primary of term 2", x.pump(), 1);
        due.node("it follows", x, 0, 3, 2, 1, 0, -1, -1, 3);
        due.link("ACK under the new term", x, Runs.row(2, 1, 3, 1));
        TwinLog y = Runs.inStep(1);
        y.promote(1);
        y.promote(0);
        y.put(0, 5, 50);
        due.is("SHIP of term 4 at the primary of term 3", y.pump(), 1);
        due.node("it follows", y, 1, 4, 2, 1, 0, -1, -1, 5);
        TwinLog z = Runs.inStep(1);
        Runs.putUnshipped(z, 0, 1);
        z.promote(0);
        z.put(0, 5, 50);
        due.is("SHIP beyond the log", z.pump(), 1);
        due.node("the term is the one write", z, 1, 4, 1, 1, 0, -1, -1, 3);
        due.link("WANT under the new term", z, Runs.row(3, 0, 4, 1));
    }

    private static void wantOfAGreaterTerm(Due due) {
        due.sentence("If it is greater, the node's term becomes that (a write), and it is no primary any more");
        TwinLog x = Runs.inStep(1);
        Runs.putUnshipped(x, 0, 1);
        x.promote(1);
        x.crash(1);
        x.recover(1);
        x.rejoin(1);
        due.is("WANT 1 of term 3 at the primary of term 2", x.pump(), 23);
        due.node("it steps down", x, 0, 3, 2, 1, 0, -1, -1, 3);
        due.link("and ships nothing", x);
        due.is("put", x.put(0, 1, 1), TwinLog.NOT_SO);
    }

    private static void atNoPrimary(Due due) {
        due.sentence("an ACK or a WANT at a node that is no primary is left, too");
        TwinLog x = Runs.inStep(1);
        Runs.putUnshipped(x, 0, 1);
        x.rejoin(1);
        x.pump();
        x.pump();
        x.rejoin(1);
        x.crash(0);
        x.recover(0);
        due.is("ACK of the same term", x.pump(), 22);
        due.is("WANT of the same term", x.pump(), 23);
        due.node("as before", x, 0, 2, 2, 1, 0, -1, -1, 2);
        due.link("nothing is shipped", x);
    }
}
