/** A WANT below 0, of an entry that is there, of one that is not, and with an empty log. */
public final class WantEdgesTest {
    public static void main(String[] args) {
        Due due = new Due("WantEdgesTest");
        belowZero(due);
        belowZeroElsewhere(due);
        entryIsThere(due);
        entryIsNotThere(due);
        farBehindTheLast(due);
        emptyLog(due);
        due.end();
    }

    /** It always brings a greater term or finds no primary of its own: then it is left, and no more. */
    private static void belowZero(Due due) {
        due.sentence("if it is below 0, nothing more");
        TwinLog x = Runs.inStep(2);
        x.put(0, 5, 50);
        x.promote(1);
        x.pump();
        due.link("WANT -1", x, Runs.row(3, 0, 3, -1));
        due.is("at the primary of a lesser term", x.pump(), 23);
        due.node("its term alone is another one", x, 0, 3, 3, 1, 0, -1, -1, 4);
        due.link("nothing is shipped", x);
    }

    private static void belowZeroElsewhere(Due due) {
        due.sentence("(A SHIP at a primary, an ACK or a WANT at a node that is no primary is left, too.)");
        TwinLog x = Runs.inStep(1);
        x.put(0, 5, 50);
        x.put(0, 6, 60);
        x.promote(1);
        for (int i = 0; i < 3; i++) {
            x.pump();
        }
        due.is("a second WANT -1, at a follower of its term", x.pump(), 23);
        due.node("as before", x, 0, 3, 3, 1, 0, -1, -1, 4);
        due.sentence("If its term is less than the node's, it is left");
        TwinLog y = Runs.inStep(1);
        y.put(0, 5, 50);
        y.promote(1);
        y.pump();
        y.promote(0);
        due.is("WANT -1 of term 3 at the primary of term 4", y.pump(), 23);
        due.node("it stays primary", y, 0, 4, 2, 1, 1, -1, -1, 3);
        due.link("nothing is sent", y);
        due.sentence("at a node that is down it is lost");
        TwinLog z = Runs.inStep(1);
        z.put(0, 5, 50);
        z.promote(1);
        z.pump();
        z.crash(0);
        due.is("WANT -1 at a node that is down", z.pump(), 13);
        due.node("as before", z, 0, 2, 2, 0, 0, -1, -1, 2);
    }

    private static void entryIsThere(Due due) {
        due.sentence("if the log has an entry i, that is shipped");
        TwinLog zero = new TwinLog();
        Runs.putUnshipped(zero, 0, 2);
        zero.put(0, 5, 50);
        zero.pump();
        due.link("WANT 0", zero, Runs.row(3, 0, 2, 0));
        due.is("WANT 0 at length 3", zero.pump(), 3);
        due.link("SHIP 0", zero, Runs.row(1, 1, 2, 0));
        for (int length = 1; length < 4; length++) {
            for (int more = 1; more < 4; more++) {
                TwinLog x = Runs.inStep(length);
                Runs.putUnshipped(x, 0, more);
                x.rejoin(1);
                due.is("WANT " + length + " at length " + (length + more), x.pump(), 3);
                due.link("SHIP of that one", x, Runs.row(1, 1, 2, length));
                due.is("AGREED stays", x.told(0, 4), length - 1);
                due.is("no write", x.told(0, 6), length + more);
            }
        }
    }

    private static void entryIsNotThere(Due due) {
        due.sentence("if it has not, and its length is above 0, its last one is");
        for (int length = 1; length < 4; length++) {
            TwinLog x = Runs.inStep(length);
            x.rejoin(1);
            due.is("WANT " + length + " at length " + length, x.pump(), 3);
            due.link("SHIP of the last one", x, Runs.row(1, 1, 2, length - 1));
        }
    }

    private static void farBehindTheLast(Due due) {
        due.sentence("if it has not, and its length is above 0, its last one is");
        for (int more = 1; more < 4; more++) {
            TwinLog x = Runs.inStep(2);
            Runs.putUnshipped(x, 0, more - 1);
            x.put(0, 5, 50);
            x.promote(1);
            x.pump();
            x.pump();
            x.rejoin(0);
            due.link("WANT", x, Runs.row(3, 1, 3, 2 + more));
            due.is("WANT " + (2 + more) + " at length 2", x.pump(), 3);
            due.link("SHIP of the last one", x, Runs.row(1, 0, 3, 1));
        }
    }

    private static void emptyLog(Due due) {
        due.sentence("if it has not, and its length is above 0, its last one is");
        TwinLog x = new TwinLog();
        x.promote(1);
        x.put(1, 5, 50);
        due.is("SHIP of term 1 at term 2", x.pump(), 21);
        due.is("WANT -1 of term 2 at term 1", x.pump(), 23);
        x.rejoin(1);
        due.link("WANT 1", x, Runs.row(3, 0, 2, 1));
        due.is("WANT 1 at an empty log", x.pump(), 3);
        due.link("nothing is shipped", x);
        due.node("as before", x, 0, 2, 0, 1, 1, -1, -1, 0);
    }
}
