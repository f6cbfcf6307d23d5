/** "NODES are 0 and 1" and "key 0 .. 15": the first and the last one, and one below and above. */
public final class NodesAndKeysEdgesTest {
    public static void main(String[] args) {
        Due due = new Due("NodesAndKeysEdgesTest");
        anotherNode(due);
        bothNodes(due);
        anotherKey(due);
        firstAndLastKey(due);
        due.end();
    }

    private static void anotherNode(Due due) {
        for (int node : Runs.WRONG_NODES) {
            String n = "(" + node + ")";
            due.sentence("BAD for another node");
            due.refused("put" + n, () -> Runs.inStep(1), x -> x.put(node, 0, 1), TwinLog.BAD);
            due.sentence("BAD as told");
            due.refused("get" + n, () -> Runs.inStep(1), x -> x.get(node, 0), TwinLog.BAD);
            due.sentence("1; BAD");
            due.refused("fuse" + n, () -> Runs.inStep(1), x -> x.fuse(node, 0), TwinLog.BAD);
            due.sentence("1; 0 when it was. BAD");
            due.refused("crash" + n, () -> Runs.inStep(1), x -> x.crash(node), TwinLog.BAD);
            due.sentence("NOT_SO when it was up; BAD");
            due.refused("recover" + n, Runs::bothDown, x -> x.recover(node), TwinLog.BAD);
            due.sentence("DOWN, also by this; BAD");
            due.refused("promote" + n, () -> Runs.inStep(1), x -> x.promote(node), TwinLog.BAD);
            due.sentence("FULL when the link is; BAD");
            due.refused("rejoin" + n, () -> Runs.inStep(1), x -> x.rejoin(node), TwinLog.BAD);
            due.sentence("6 how many writes there were. BAD");
            for (int what = 0; what < 7; what++) {
                int w = what;
                due.refused("told" + n, () -> Runs.inStep(1), x -> x.told(node, w), TwinLog.BAD);
            }
            due.sentence("0 when there is none such");
            for (int what = 0; what < 3; what++) {
                int w = what;
                due.refused("entry" + n, Runs::apartAtOne, x -> x.entry(node, 1, w), 0);
            }
        }
    }

    private static void bothNodes(Due due) {
        due.sentence("NODES are 0 and 1");
        for (int node = 0; node < 2; node++) {
            TwinLog x = new TwinLog();
            int term = 4 - 3 * node;
            due.is("promote", x.promote(node), term);
            due.is("put", x.put(node, 1, 10), 0);
            due.is("to the other one", x.message(0, 1), 1 - node);
            due.is("get", x.get(node, 1), 10);
            due.is("get of the other one", x.get(1 - node, 1), 0);
            due.is("entry", x.entry(node, 0, 0), term);
            due.is("fuse", x.fuse(node, 5), 1);
            due.is("told", x.told(node, 5), 5);
            due.is("told of the other one", x.told(1 - node, 5), -1);
            due.is("crash", x.crash(node), 1);
            due.is("told", x.told(node, 2), 0);
            due.is("told of the other one", x.told(1 - node, 2), 1);
            due.is("recover", x.recover(node), 1);
            due.is("rejoin", x.rejoin(node), 1);
            due.is("to the other one", x.message(1, 1), 1 - node);
        }
    }

    private static void anotherKey(Due due) {
        for (int key : Runs.WRONG_KEYS) {
            due.sentence("BAD for another node or key");
            due.refused("put of key " + key, () -> Runs.inStep(1), x -> x.put(0, key, 1), TwinLog.BAD);
            due.refused("put of key " + key + ", no primary", () -> Runs.inStep(1), x -> x.put(1, key, 1), TwinLog.BAD);
            due.refused("put of key " + key + ", down", Runs::bothDown, x -> x.put(0, key, 1), TwinLog.BAD);
            due.refused("put of key " + key + ", link full", Runs::fullLink, x -> x.put(0, key, 1), TwinLog.BAD);
            due.refused("put of key " + key + ", log full", Runs::fullLog, x -> x.put(0, key, 1), TwinLog.BAD);
            due.sentence("BAD as told; (also when it is down)");
            due.refused("get of key " + key, () -> Runs.inStep(1), x -> x.get(0, key), TwinLog.BAD);
            due.refused("get of key " + key, () -> Runs.inStep(1), x -> x.get(1, key), TwinLog.BAD);
            due.refused("get of key " + key + ", down", Runs::bothDown, x -> x.get(0, key), TwinLog.BAD);
        }
    }

    private static void firstAndLastKey(Due due) {
        due.sentence("key 0 .. 15");
        int[] keys = {0, 15};
        for (int key : keys) {
            TwinLog x = new TwinLog();
            due.is("put of key " + key, x.put(0, key, 10), 0);
            due.is("put of key " + key + " again", x.put(0, key, 11), 1);
            due.is("get of key " + key, x.get(0, key), 11);
            due.is("get of the key at the other end", x.get(0, 15 - key), 0);
            due.is("entry's key", x.entry(0, 1, 1), key);
            Runs.pumpAll(x);
            due.is("get of key " + key + " at the follower", x.get(1, key), 11);
        }
    }
}
