/** An ACK at or below AGREED and above it, with an entry behind its number and with none. */
public final class AckEdgesTest {
    public static void main(String[] args) {
        Due due = new Due("AckEdgesTest");
        noneAgreed(due);
        above(due);
        aboveByMore(due);
        atAgreed(due);
        below(due);
        behindTheLast(due);
        due.end();
    }

    private static void noneAgreed(Due due) {
        due.sentence("A primary has a number AGREED, -1 at first");
        TwinLog x = new TwinLog();
        due.is("new", x.told(0, 4), -1);
        due.is("at node 1, which is none", x.told(1, 4), -1);
        x.put(0, 1, 1);
        due.is("put", x.told(0, 4), -1);
        x.pump();
        due.is("the ACK is under way", x.told(0, 4), -1);
        due.is("ACK 0", x.pump(), 2);
        due.is("AGREED", x.told(0, 4), 0);
        due.is("at node 1, which is none", x.told(1, 4), -1);
    }

    private static void above(Due due) {
        due.sentence("if it is above AGREED, it becomes AGREED");
        TwinLog x = new TwinLog();
        for (int i = 0; i < 5; i++) {
            x.put(0, i, i);
            x.pump();
            due.is("before ACK " + i, x.told(0, 4), i - 1);
            due.is("ACK " + i, x.pump(), 2);
            due.is("after ACK " + i, x.told(0, 4), i);
            due.is("no write", x.told(0, 6), i + 1);
        }
    }

    private static void aboveByMore(Due due) {
        due.sentence("if it is above AGREED, it becomes AGREED");
        TwinLog x = new TwinLog();
        for (int i = 0; i < 4; i++) {
            x.put(0, i, i);
        }
        for (int i = 0; i < 4; i++) {
            x.pump();
        }
        x.drop(0);
        x.drop(0);
        due.is("ACK 2 at AGREED -1", x.pump(), 2);
        due.is("AGREED", x.told(0, 4), 2);
        due.link("SHIP 3", x, Runs.row(2, 0, 2, 3), Runs.row(1, 1, 2, 3));
    }

    /** Three entries, agreed on up to 1, of which the last is not on node 1; ACK 1 is sent again. */
    private static void atAgreed(Due due) {
        due.sentence("if it is above AGREED, it becomes AGREED; if the log has an entry i + 1, that is shipped");
        TwinLog x = Runs.inStep(2);
        x.rejoin(1);
        x.pump();
        x.pump();
        Runs.putUnshipped(x, 0, 1);
        due.link("ACK 1", x, Runs.row(2, 0, 2, 1));
        due.is("AGREED before", x.told(0, 4), 1);
        due.is("ACK 1", x.pump(), 2);
        due.is("AGREED stays", x.told(0, 4), 1);
        due.link("SHIP 2", x, Runs.row(1, 1, 2, 2));
    }

    private static void below(Due due) {
        due.sentence("if it is above AGREED, it becomes AGREED; if the log has an entry i + 1, that is shipped");
        TwinLog x = new TwinLog();
        for (int i = 0; i < 3; i++) {
            x.put(0, i, i);
        }
        for (int i = 0; i < 3; i++) {
            x.pump();
        }
        x.pump();
        x.pump();
        x.pump();
        due.is("AGREED before", x.told(0, 4), 2);
        x.pump();
        x.drop(0);
        due.link("ACK 1", x, Runs.row(2, 0, 2, 1));
        due.is("ACK 1", x.pump(), 2);
        due.is("AGREED stays", x.told(0, 4), 2);
        due.link("SHIP 2", x, Runs.row(1, 1, 2, 2));
    }

    private static void behindTheLast(Due due) {
        due.sentence("if the log has an entry i + 1, that is shipped");
        TwinLog x = new TwinLog();
        x.put(0, 1, 1);
        x.pump();
        due.is("ACK of the last one", x.pump(), 2);
        due.link("nothing is shipped", x);
        x.put(0, 1, 1);
        x.pump();
        Runs.putUnshipped(x, 0, 1);
        due.is("ACK of the last but one", x.pump(), 2);
        due.link("the last one is shipped", x, Runs.row(1, 1, 2, 2));
        TwinLog y = Runs.inStep(63);
        y.put(0, 1, 1);
        y.pump();
        due.is("ACK 63", y.pump(), 2);
        due.is("AGREED", y.told(0, 4), 63);
        due.link("nothing is shipped", y);
    }
}
