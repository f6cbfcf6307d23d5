import java.util.ArrayList;
import java.util.Arrays;
import java.util.LinkedList;
import java.util.List;

/**
 * A second telling of the document, for ModelTest to hold against the program. It is built another
 * way on purpose: lists that grow, arrays as rows, and a crash that leaves the call by an exception.
 */
final class Model {
    private static final class Crash extends Exception {
        private static final long serialVersionUID = 1L;
    }

    private static final class Host {
        List<List<Integer>> log = new ArrayList<>();
        int term;
        boolean up = true;
        boolean primary;
        int agreed = -1;
        int fuse = -1;
        int writes;

        void write() throws Crash {
            if (fuse == 0) {
                fall();
                throw new Crash();
            }
            fuse = fuse < 0 ? -1 : fuse - 1;
            writes++;
        }

        void fall() {
            up = false;
            primary = false;
            fuse = -1;
            agreed = -1;
        }

        void cut(int length) throws Crash {
            write();
            log = new ArrayList<>(log.subList(0, length));
        }

        void behind(List<Integer> entry) throws Crash {
            write();
            log.add(entry);
        }
    }

    /** The first four parts are those that message() tells; a SHIP has the rest as well. */
    private record Letter(int kind, int to, int term, int number, List<Integer> entry, int before, int length) {
    }

    private final Host[] hosts = {new Host(), new Host()};
    private final LinkedList<Letter> letters = new LinkedList<>();

    Model() {
        hosts[0].term = 2;
        hosts[0].primary = true;
    }

    private static boolean wrongNode(int node) {
        return node != 0 && node != 1;
    }

    private static boolean wrongKey(int key) {
        return key < 0 || key > 15;
    }

    private void send(Letter letter) {
        if (letters.size() < 16) {
            letters.addLast(letter);
        }
    }

    private void say(int from, int kind, int number) {
        send(new Letter(kind, 1 - from, hosts[from].term, number, null, 0, 0));
    }

    private void ship(int from, int i) {
        Host h = hosts[from];
        int before = i == 0 ? 0 : h.log.get(i - 1).get(0);
        send(new Letter(1, 1 - from, h.term, i, h.log.get(i), before, h.log.size()));
    }

    int put(int node, int key, int value) {
        if (wrongNode(node) || wrongKey(key)) return -1;
        Host h = hosts[node];
        if (!h.up) return -4;
        if (!h.primary) return -2;
        if (h.log.size() == 64 || letters.size() == 16) return -3;
        try {
            h.behind(Arrays.asList(h.term, key, value));
        } catch (Crash c) {
            return -4;
        }
        ship(node, h.log.size() - 1);
        return h.log.size() - 1;
    }

    int get(int node, int key) {
        if (wrongNode(node) || wrongKey(key)) return -1;
        int answer = 0;
        for (List<Integer> e : hosts[node].log) {
            if (e.get(1) == key) answer = e.get(2);
        }
        return answer;
    }

    int pump() {
        if (letters.isEmpty()) return 0;
        Letter l = letters.removeFirst();
        if (!hosts[l.to].up) return l.kind + 10;
        try {
            return arrive(l) ? l.kind : l.kind + 20;
        } catch (Crash c) {
            return l.kind;
        }
    }

    private boolean arrive(Letter l) throws Crash {
        Host h = hosts[l.to];
        if (l.term < h.term) {
            if (l.kind == 1) say(l.to, 3, -1);
            return false;
        }
        if (l.term > h.term) {
            h.write();
            h.term = l.term;
            h.primary = false;
            h.agreed = -1;
        }
        if (l.kind == 1) return !h.primary && shipArrives(l, h);
        if (!h.primary) return false;
        if (l.kind == 2) {
            if (l.number > h.agreed) h.agreed = l.number;
            if (l.number + 1 < h.log.size()) ship(l.to, l.number + 1);
        } else if (l.number >= 0) {
            if (l.number < h.log.size()) ship(l.to, l.number);
            else if (h.log.size() > 0) ship(l.to, h.log.size() - 1);
        }
        return true;
    }

    private boolean shipArrives(Letter l, Host h) throws Crash {
        int i = l.number;
        if (h.log.size() < i) {
            say(l.to, 3, h.log.size());
            return true;
        }
        if (i > 0 && h.log.get(i - 1).get(0) != l.before) {
            h.cut(i - 1);
            say(l.to, 3, i - 1);
            return true;
        }
        if (h.log.size() > i && !h.log.get(i).equals(l.entry)) h.cut(i);
        if (h.log.size() == i) h.behind(l.entry);
        if (h.log.size() > l.length) h.cut(l.length);
        say(l.to, 2, i);
        return true;
    }

    boolean drop(int i) {
        if (i < 0 || i >= letters.size()) return false;
        letters.remove(i);
        return true;
    }

    int fuse(int node, int writes) {
        if (wrongNode(node)) return -1;
        hosts[node].fuse = writes < 0 ? -1 : writes;
        return 1;
    }

    int crash(int node) {
        if (wrongNode(node)) return -1;
        boolean was = hosts[node].up;
        hosts[node].fall();
        return was ? 1 : 0;
    }

    int recover(int node) {
        if (wrongNode(node)) return -1;
        Host h = hosts[node];
        if (h.up) return -2;
        h.up = true;
        h.fuse = -1;
        return h.log.size();
    }

    int promote(int node) {
        if (wrongNode(node)) return -1;
        Host h = hosts[node];
        if (!h.up) return -4;
        int term = h.term + 1;
        while (term % 2 != node) term++;
        try {
            h.write();
        } catch (Crash c) {
            return -4;
        }
        h.term = term;
        h.primary = true;
        h.agreed = -1;
        return term;
    }

    int rejoin(int node) {
        if (wrongNode(node)) return -1;
        Host h = hosts[node];
        if (!h.up) return -4;
        if (h.primary) return -2;
        if (letters.size() == 16) return -3;
        say(node, 3, h.log.size());
        return 1;
    }

    int told(int node, int what) {
        if (wrongNode(node) || what < 0 || what > 6) return -1;
        Host h = hosts[node];
        int[] all = {h.term, h.log.size(), h.up ? 1 : 0, h.primary ? 1 : 0, h.agreed, h.fuse, h.writes};
        return all[what];
    }

    int entry(int node, int i, int what) {
        if (wrongNode(node) || i < 0 || i >= hosts[node].log.size() || what < 0 || what > 2) return 0;
        return hosts[node].log.get(i).get(what);
    }

    int message(int i, int what) {
        if (i < 0 || i >= letters.size() || what < 0 || what > 3) return -1;
        Letter l = letters.get(i);
        int[] all = {l.kind, l.to, l.term, l.number};
        return all[what];
    }

    int same() {
        int n = 0;
        while (n < hosts[0].log.size() && n < hosts[1].log.size()
                && hosts[0].log.get(n).equals(hosts[1].log.get(n))) {
            n++;
        }
        return n;
    }
}
