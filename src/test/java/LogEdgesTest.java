/** "its LOG, at most 64 ENTRIES ..., numbered from 0": a log with no entry, with one, with 64. */
public final class LogEdgesTest {
    public static void main(String[] args) {
        Due due = new Due("LogEdgesTest");
        noEntry(due);
        oneEntry(due);
        oneEntryIsCut(due);
        fullLogOfThePrimary(due);
        fullLogOfBoth(due);
        lastEntryOfAFullLogIsReplaced(due);
        fullLogIsCutAndHasRoomAgain(due);
        due.end();
    }

    private static void noEntry(Due due) {
        for (int node = 0; node < 2; node++) {
            TwinLog x = new TwinLog();
            due.sentence("Empty logs");
            due.is("length", x.told(node, 1), 0);
            due.is("same()", x.same(), 0);
            due.sentence("0 when there is none");
            due.is("get of key 0", x.get(node, 0), 0);
            due.is("get of key 15", x.get(node, 15), 0);
            due.sentence("0 when there is none such");
            due.is("entry 0", x.entry(node, 0, 0), 0);
            x.crash(node);
            due.sentence("how many entries its log has");
            due.is("recover", x.recover(node), 0);
            due.sentence("sends WANT with its log's length");
            due.is("rejoin", x.rejoin(node), 1);
            due.is("number", x.message(0, 3), 0);
        }
    }

    private static void oneEntry(Due due) {
        TwinLog x = new TwinLog();
        due.sentence("numbered from 0");
        due.is("put", x.put(0, 0, 9), 0);
        due.is("length", x.told(0, 1), 1);
        due.is("entry 0", x.entry(0, 0, 2), 9);
        due.is("entry 1", x.entry(0, 1, 2), 0);
        due.is("get", x.get(0, 0), 9);
        due.sentence("Up to which number both logs have the same entries: how many");
        due.is("same(), the other log empty", x.same(), 0);
        x.pump();
        due.is("same(), both with one", x.same(), 1);
        x.crash(1);
        due.sentence("how many entries its log has");
        due.is("recover", x.recover(1), 1);
        due.sentence("sends WANT with its log's length");
        x.rejoin(1);
        due.is("number", x.message(1, 3), 1);
    }

    /** Node 0 has one entry of term 2; node 1 ships its entry 1, before which stands one of term 3. */
    private static void oneEntryIsCut(Due due) {
        TwinLog x = new TwinLog();
        Runs.putUnshipped(x, 0, 1);
        x.promote(1);
        x.promote(1);
        Runs.putUnshipped(x, 1, 1);
        x.put(1, 5, 50);
        due.sentence("its log is cut to i - 1, and WANT i - 1 is sent");
        due.is("SHIP 1", x.pump(), 1);
        due.node("cut to none", x, 0, 3, 0, 1, 0, -1, -1, 3);
        due.link("WANT 0", x, Runs.row(3, 1, 3, 0));
        due.is("get of what is cut", x.get(0, 0), 0);
        due.is("entry of what is cut", x.entry(0, 0, 2), 0);
        due.is("same()", x.same(), 0);
        Runs.pumpAll(x);
        due.log("caught up from none", x, 0, Runs.row(3, 0, 100), Runs.row(3, 5, 50));
    }

    private static void fullLogOfThePrimary(Due due) {
        TwinLog x = new TwinLog();
        due.sentence("at most 64 ENTRIES");
        for (int i = 0; i < 64; i++) {
            due.is("put", x.put(0, i % 16, 100 + i), i);
            x.drop(0);
        }
        due.is("length", x.told(0, 1), 64);
        due.is("entry 63", x.entry(0, 63, 2), 163);
        due.is("entry 64", x.entry(0, 64, 2), 0);
        due.is("get of the last one's key", x.get(0, 15), 163);
        due.is("get of the 49th one's key", x.get(0, 0), 148);
        due.sentence("FULL when the log has 64");
        due.refused("put", Runs::fullLog, y -> y.put(0, 0, 0), TwinLog.FULL);
        due.refused("put with the last key", Runs::fullLog, y -> y.put(0, 15, -1), TwinLog.FULL);
    }

    private static void fullLogOfBoth(Due due) {
        TwinLog x = Runs.inStep(64);
        due.sentence("at most 64 ENTRIES");
        due.node("primary", x, 0, 2, 64, 1, 1, 63, -1, 64);
        due.node("follower", x, 1, 2, 64, 1, 0, -1, -1, 65);
        due.is("entry 63", x.entry(1, 63, 2), 163);
        due.is("same()", x.same(), 64);
        due.sentence("if it has not, and its length is above 0, its last one is");
        x.rejoin(1);
        due.link("WANT 64", x, Runs.row(3, 0, 2, 64));
        x.pump();
        due.link("SHIP 63", x, Runs.row(1, 1, 2, 63));
        x.pump();
        due.link("ACK 63", x, Runs.row(2, 0, 2, 63));
        due.is("nothing written", x.told(1, 6), 65);
        due.sentence("if the log has an entry i + 1, that is shipped");
        x.pump();
        due.link("there is no entry 64", x);
        due.sentence("FULL when the log has 64");
        due.is("promote", x.promote(1), 3);
        due.is("put at the new primary", x.put(1, 0, 0), TwinLog.FULL);
        due.link("nothing shipped", x);
        due.sentence("how many entries its log has");
        x.crash(1);
        due.is("recover", x.recover(1), 64);
    }

    private static void lastEntryOfAFullLogIsReplaced(Due due) {
        TwinLog x = Runs.inStep(63);
        x.put(0, 3, 30);
        x.drop(0);
        x.promote(1);
        due.sentence("if it has an entry i of another term (or key or value), its log is cut to i");
        due.is("put at the new primary", x.put(1, 4, 40), 63);
        due.is("SHIP 63 at length 64", x.pump(), 1);
        due.node("a term, a cut, an entry", x, 0, 3, 64, 1, 0, -1, -1, 67);
        due.is("entry 63", x.entry(0, 63, 2), 40);
        due.is("same()", x.same(), 64);
    }

    private static void fullLogIsCutAndHasRoomAgain(Due due) {
        TwinLog x = Runs.fullLog();
        x.promote(1);
        x.promote(1);
        x.put(1, 4, 40);
        due.sentence("if it has an entry i of another term (or key or value), its log is cut to i");
        due.is("SHIP 0 at length 64", x.pump(), 1);
        due.log("replaced from number 0 on", x, 0, Runs.row(3, 4, 40));
        due.is("the last one is gone", x.entry(0, 63, 0), 0);
        due.is("promote", x.promote(0), 4);
        due.is("put", x.put(0, 5, 50), 1);
    }
}
