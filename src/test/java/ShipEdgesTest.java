/** A SHIP whose number is the log's length, above it, below it, and 0; and the told length. */
public final class ShipEdgesTest {
    public static void main(String[] args) {
        Due due = new Due("ShipEdgesTest");
        numberIsTheLength(due);
        numberIsAboveTheLength(due);
        numberIsBelowTheLength(due);
        numberZero(due);
        anotherTermBefore(due);
        anotherTermBeforeInALongerLog(due);
        lesserTermBefore(due);
        anotherEntry(due);
        entryOfALesserTerm(due);
        longerThanTold(due);
        asLongAsTold(due);
        shorterThanTold(due);
        due.end();
    }

    private static void numberIsTheLength(Due due) {
        due.sentence("if its log has length i, the entry is put behind");
        for (int length = 0; length < 3; length++) {
            TwinLog x = Runs.inStep(length);
            int writes = x.told(1, 6);
            x.put(0, 5, 50);
            due.is("SHIP at length " + length, x.pump(), 1);
            due.is("length", x.told(1, 1), length + 1);
            due.is("value", x.entry(1, length, 2), 50);
            due.is("writes, the first one's term too", x.told(1, 6), writes + (length == 0 ? 2 : 1));
            due.link("ACK", x, Runs.row(2, 0, 2, length));
        }
    }

    private static void numberIsAboveTheLength(Due due) {
        due.sentence("if its log is shorter than i: WANT with its length");
        for (int length = 0; length < 3; length++) {
            for (int above = 1; above < 4; above++) {
                TwinLog x = Runs.inStep(length);
                Runs.putUnshipped(x, 0, above);
                x.put(0, 5, 50);
                due.is("SHIP " + above + " above length " + length, x.pump(), 1);
                due.is("length", x.told(1, 1), length);
                due.link("WANT with its length", x, Runs.row(3, 0, 2, length));
                Runs.pumpAll(x);
                due.is("caught up", x.same(), length + above + 1);
            }
        }
    }

    private static void numberIsBelowTheLength(Due due) {
        due.sentence("ACK i is sent");
        TwinLog x = new TwinLog();
        for (int i = 0; i < 4; i++) {
            x.put(0, i, i);
        }
        for (int i = 0; i < 8; i++) {
            x.pump();
        }
        due.link("the ACKs have shipped again", x, Runs.row(1, 1, 2, 1), Runs.row(1, 1, 2, 2), Runs.row(1, 1, 2, 3));
        for (int i = 1; i < 4; i++) {
            due.is("SHIP of what is there", x.pump(), 1);
            due.node("nothing is written", x, 1, 2, 4, 1, 0, -1, -1, 5);
            due.is("ACK", x.message(2, 0), 2);
            due.is("its number", x.message(2, 3), i);
        }
    }

    private static void numberZero(Due due) {
        due.sentence("the term of the entry before it (0 for number 0)");
        TwinLog x = new TwinLog();
        x.put(0, 5, 50);
        due.is("SHIP 0 at an empty log", x.pump(), 1);
        due.log("put behind", x, 1, Runs.row(2, 5, 50));
        due.link("ACK 0", x, Runs.row(2, 0, 2, 0));
        due.sentence("if i is above 0");
        TwinLog y = Runs.inStep(1);
        y.rejoin(1);
        y.pump();
        due.is("SHIP 0 of what is there", y.pump(), 1);
        due.node("nothing is written", y, 1, 2, 1, 1, 0, -1, -1, 2);
        due.link("ACK 0", y, Runs.row(2, 0, 2, 0));
        due.sentence("if it has an entry i of another term (or key or value), its log is cut to i");
        TwinLog z = new TwinLog();
        Runs.putUnshipped(z, 0, 3);
        z.promote(1);
        z.promote(1);
        z.put(1, 8, 80);
        due.is("SHIP 0 at a log of another entry 0", z.pump(), 1);
        due.node("a term, a cut to none, an entry", z, 0, 3, 1, 1, 0, -1, -1, 6);
        due.log("replaced", z, 0, Runs.row(3, 8, 80));
        due.link("ACK 0", z, Runs.row(2, 1, 3, 0));
    }

    private static void anotherTermBefore(Due due) {
        due.sentence("if i is above 0 and the term of its entry i - 1 is another one than told: its log is cut to i - 1");
        for (int apart = 0; apart < 3; apart++) {
            TwinLog x = Runs.inStep(apart);
            Runs.putUnshipped(x, 0, 1);
            x.promote(1);
            x.promote(1);
            int term = x.told(1, 0);
            Runs.putUnshipped(x, 1, 1);
            x.put(1, 5, 50);
            due.is("SHIP " + (apart + 1), x.pump(), 1);
            due.node("a term and a cut", x, 0, term, apart, 1, 0, -1, -1, apart + 3);
            due.link("WANT i - 1", x, Runs.row(3, 1, term, apart));
            Runs.pumpAll(x);
            due.is("caught up", x.same(), apart + 2);
        }
    }

    private static void anotherTermBeforeInALongerLog(Due due) {
        due.sentence("its log is cut to i - 1, and WANT i - 1 is sent");
        TwinLog x = Runs.inStep(1);
        Runs.putUnshipped(x, 0, 4);
        x.promote(1);
        Runs.putUnshipped(x, 1, 1);
        x.put(1, 5, 50);
        due.is("SHIP 2 at length 5", x.pump(), 1);
        due.node("a term and a cut", x, 0, 3, 1, 1, 0, -1, -1, 7);
        due.link("WANT 1", x, Runs.row(3, 1, 3, 1));
    }

    /** Node 1 has an entry 1 of term 3, node 0 one of term 2 and behind it one of term 4. */
    private static void lesserTermBefore(Due due) {
        due.sentence("the term of its entry i - 1 is another one than told");
        TwinLog x = Runs.apartAtOne();
        Runs.dropAll(x);
        x.promote(0);
        x.put(0, 5, 50);
        due.is("SHIP 2, told term 2, its own is 3", x.pump(), 1);
        due.node("a term and a cut", x, 1, 4, 1, 1, 0, -1, -1, 6);
        due.link("WANT 1", x, Runs.row(3, 0, 4, 1));
    }

    private static void anotherEntry(Due due) {
        due.sentence("if it has an entry i of another term (or key or value), its log is cut to i");
        for (int behind = 0; behind < 3; behind++) {
            TwinLog x = Runs.apartAtOne();
            Runs.putUnshipped(x, 0, behind);
            due.is("SHIP 1 at length " + (2 + behind), x.pump(), 1);
            due.log("replaced, and what was behind is gone", x, 0, Runs.row(2, 0, 100), Runs.row(3, 8, 80));
            due.is("entries, a term, a cut, an entry", x.told(0, 6), 2 + behind + 3);
            due.link("ACK 1", x, Runs.row(2, 1, 3, 1));
        }
        TwinLog y = Runs.inStep(1);
        y.put(0, 8, 80);
        Runs.dropAll(y);
        y.promote(1);
        y.put(1, 8, 80);
        due.is("SHIP 1 of the same key and value", y.pump(), 1);
        due.is("the term alone is another one", y.entry(0, 1, 0), 3);
        due.is("entries, a term, a cut, an entry", y.told(0, 6), 5);
    }

    /** Node 1 has an entry 1 of term 3; node 0, the primary of term 4, ships its own, of term 2. */
    private static void entryOfALesserTerm(Due due) {
        due.sentence("if it has an entry i of another term (or key or value), its log is cut to i");
        TwinLog x = Runs.apartAtOne();
        x.promote(0);
        due.is("SHIP of term 3", x.pump(), 21);
        due.is("WANT -1 of term 4", x.pump(), 23);
        x.rejoin(1);
        due.is("WANT 2", x.pump(), 3);
        due.is("SHIP 1", x.pump(), 1);
        due.log("replaced", x, 1, Runs.row(2, 0, 100), Runs.row(2, 1, 101));
        due.node("a cut and an entry", x, 1, 4, 2, 1, 0, -1, -1, 7);
        due.link("ACK 1", x, Runs.row(2, 0, 4, 1));
    }

    /** Node 0 steps down by a WANT -1 with more entries than the new primary has, and rejoins. */
    private static TwinLog longerBy(int more) {
        TwinLog x = Runs.inStep(2);
        Runs.putUnshipped(x, 0, more - 1);
        x.put(0, 5, 50);
        x.promote(1);
        x.pump();
        x.pump();
        x.rejoin(0);
        x.pump();
        return x;
    }

    private static void longerThanTold(Due due) {
        due.sentence("if it is longer than told, it is cut to that");
        for (int more = 1; more < 4; more++) {
            TwinLog x = longerBy(more);
            due.is("length before", x.told(0, 1), 2 + more);
            due.link("SHIP 1 of a log of length 2", x, Runs.row(1, 0, 3, 1));
            due.is("SHIP 1", x.pump(), 1);
            due.node("cut to 2", x, 0, 3, 2, 1, 0, -1, -1, 2 + more + 2);
            due.is("the first of the rest is gone", x.entry(0, 2, 0), 0);
            due.link("ACK 1", x, Runs.row(2, 1, 3, 1));
        }
    }

    private static void asLongAsTold(Due due) {
        due.sentence("if it is longer than told, it is cut to that");
        TwinLog x = Runs.inStep(2);
        x.rejoin(1);
        x.pump();
        due.is("SHIP 1 of a log of length 2 at length 2", x.pump(), 1);
        due.node("nothing is written", x, 1, 2, 2, 1, 0, -1, -1, 3);
        TwinLog y = new TwinLog();
        for (int i = 0; i < 3; i++) {
            y.put(0, i, i);
        }
        for (int i = 0; i < 6; i++) {
            y.pump();
        }
        due.is("SHIP 1 of a log of length 3 at length 3", y.pump(), 1);
        due.node("nothing is written", y, 1, 2, 3, 1, 0, -1, -1, 4);
    }

    private static void shorterThanTold(Due due) {
        due.sentence("how long the sender's log is then");
        TwinLog x = Runs.inStep(1);
        Runs.putUnshipped(x, 0, 3);
        x.rejoin(1);
        x.pump();
        due.is("SHIP 1 of a log of length 4 at length 1", x.pump(), 1);
        due.node("the entry is the one write", x, 1, 2, 2, 1, 0, -1, -1, 3);
        due.link("ACK 1", x, Runs.row(2, 0, 2, 1));
        TwinLog y = Runs.inStep(1);
        y.put(0, 5, 50);
        Runs.putUnshipped(y, 0, 2);
        due.is("SHIP 1 of a log that has grown since", y.pump(), 1);
        due.node("the entry is the one write", y, 1, 2, 2, 1, 0, -1, -1, 3);
    }
}
