/** Promise 3. */
public final class GetTest {
    public static void main(String[] args) {
        Due due = new Due("GetTest");
        TwinLog x = new TwinLog();
        due.is("empty log", x.get(0, 3), 0);
        x.put(0, 3, 5);
        x.put(0, 4, -8);
        x.put(0, 3, 7);
        due.is("the last one of the key", x.get(0, 3), 7);
        due.is("another key", x.get(0, 4), -8);
        due.is("a key without an entry", x.get(0, 0), 0);
        due.is("not yet arrived", x.get(1, 3), 0);
        Runs.pumpAll(x);
        due.is("arrived", x.get(1, 3), 7);
        x.crash(0);
        x.crash(1);
        due.is("node 0 down", x.get(0, 3), 7);
        due.is("node 1 down", x.get(1, 4), -8);
        edgesOfTheKeys(due);
        refusesWrongNodeAndKey(due);
        forgetsWhatIsCut(due);
        due.end();
    }

    private static void edgesOfTheKeys(Due due) {
        TwinLog x = new TwinLog();
        x.put(0, 0, 11);
        x.put(0, 15, -1);
        due.is("key 0", x.get(0, 0), 11);
        due.is("key 15", x.get(0, 15), -1);
    }

    private static void refusesWrongNodeAndKey(Due due) {
        TwinLog x = new TwinLog();
        for (int node : Runs.WRONG_NODES) {
            due.is("get(" + node + ", 0)", x.get(node, 0), TwinLog.BAD);
        }
        int[] keys = {-1, 16, Integer.MIN_VALUE, Integer.MAX_VALUE};
        for (int key : keys) {
            due.is("get(0, " + key + ")", x.get(0, key), TwinLog.BAD);
            due.is("get(1, " + key + ")", x.get(1, key), TwinLog.BAD);
        }
    }

    private static void forgetsWhatIsCut(Due due) {
        TwinLog x = Runs.inStep(1);
        x.put(0, 9, 90);
        Runs.dropAll(x);
        x.promote(1);
        x.put(1, 8, 80);
        Runs.pumpAll(x);
        due.is("cut entry", x.get(0, 9), 0);
        due.is("entry in its place", x.get(0, 8), 80);
    }
}
