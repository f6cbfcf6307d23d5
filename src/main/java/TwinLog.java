/**
 * Two nodes that keep one log over a link that loses messages.
 *
 * All rows are made in the constructors and used again, so that no call makes an object.
 */
public final class TwinLog {
    public static final int BAD = -1;
    public static final int NOT_SO = -2;
    public static final int FULL = -3;
    public static final int DOWN = -4;

    private static final int MOST_ENTRIES = 64;
    private static final int MOST_MESSAGES = 16;
    private static final int KEYS = 16;

    private static final int SHIP = 1;
    private static final int ACK = 2;
    private static final int WANT = 3;

    private static final int NODE_WAS_DOWN = 10;
    private static final int WAS_LEFT = 20;

    /** Stands for no fuse, for nothing agreed on, and for a WANT that only tells a newer term. */
    private static final int NONE = -1;

    private final Node zero;
    private final Node one;
    private final Link link;

    public TwinLog() {
        zero = new Node(0, 2, true);
        one = new Node(1, 0, false);
        link = new Link();
    }

    public int put(int node, int key, int value) {
        Node n = nodeOf(node);
        if (n == null || !isKey(key)) {
            return BAD;
        }
        if (!n.up) {
            return DOWN;
        }
        if (!n.primary) {
            return NOT_SO;
        }
        // A put that finds no room must not burn the fuse, so this comes before the write.
        if (n.length >= MOST_ENTRIES || link.isFull()) {
            return FULL;
        }
        int number = n.length;
        if (!n.append(n.term, key, value)) {
            return DOWN;
        }
        ship(n, number);
        return number;
    }

    public int get(int node, int key) {
        Node n = nodeOf(node);
        if (n == null || !isKey(key)) {
            return BAD;
        }
        for (int i = n.length - 1; i >= 0; i--) {
            if (n.keys[i] == key) {
                return n.values[i];
            }
        }
        return 0;
    }

    public int pump() {
        Message m = link.take(0);
        if (m == null) {
            return 0;
        }
        Node receiver = m.to == 0 ? zero : one;
        if (!receiver.up) {
            return m.kind + NODE_WAS_DOWN;
        }
        return arrive(m, receiver) ? m.kind : m.kind + WAS_LEFT;
    }

    public boolean drop(int i) {
        return link.take(i) != null;
    }

    public int fuse(int node, int writes) {
        Node n = nodeOf(node);
        if (n == null) {
            return BAD;
        }
        n.fuseLeft = Math.max(writes, NONE);
        return 1;
    }

    public int crash(int node) {
        Node n = nodeOf(node);
        if (n == null) {
            return BAD;
        }
        int answer = n.up ? 1 : 0;
        n.goDown();
        return answer;
    }

    public int recover(int node) {
        Node n = nodeOf(node);
        if (n == null) {
            return BAD;
        }
        if (n.up) {
            return NOT_SO;
        }
        n.comeUp();
        return n.length;
    }

    public int promote(int node) {
        Node n = nodeOf(node);
        if (n == null) {
            return BAD;
        }
        if (!n.up || !n.changeTerm(n.nextOwnTerm())) {
            return DOWN;
        }
        n.primary = true;
        n.agreed = NONE;
        return n.term;
    }

    public int rejoin(int node) {
        Node n = nodeOf(node);
        if (n == null) {
            return BAD;
        }
        if (!n.up) {
            return DOWN;
        }
        if (n.primary) {
            return NOT_SO;
        }
        if (link.isFull()) {
            return FULL;
        }
        link.send(WANT, n, n.length);
        return 1;
    }

    public int told(int node, int what) {
        Node n = nodeOf(node);
        if (n == null) {
            return BAD;
        }
        switch (what) {
            case 0: return n.term;
            case 1: return n.length;
            case 2: return n.up ? 1 : 0;
            case 3: return n.primary ? 1 : 0;
            case 4: return n.primary ? n.agreed : NONE;
            case 5: return n.fuseLeft;
            case 6: return n.writes;
            default: return BAD;
        }
    }

    public int entry(int node, int i, int what) {
        Node n = nodeOf(node);
        if (n == null || !n.hasEntry(i)) {
            return 0;
        }
        switch (what) {
            case 0: return n.terms[i];
            case 1: return n.keys[i];
            case 2: return n.values[i];
            default: return 0;
        }
    }

    public int message(int i, int what) {
        Message m = link.at(i);
        if (m == null) {
            return BAD;
        }
        switch (what) {
            case 0: return m.kind;
            case 1: return m.to;
            case 2: return m.term;
            case 3: return m.number;
            default: return BAD;
        }
    }

    public int same() {
        int shorter = Math.min(zero.length, one.length);
        int i = 0;
        while (i < shorter && one.isEntry(i, zero.terms[i], zero.keys[i], zero.values[i])) {
            i++;
        }
        return i;
    }

    private Node nodeOf(int node) {
        if (node == 0) {
            return zero;
        }
        return node == 1 ? one : null;
    }

    private static boolean isKey(int key) {
        return key >= 0 && key < KEYS;
    }

    /** Answers false when the message was left; one on which the receiver crashes is over, not left. */
    private boolean arrive(Message m, Node receiver) {
        if (m.term < receiver.term) {
            if (m.kind == SHIP) {
                link.send(WANT, receiver, NONE);
            }
            return false;
        }
        if (m.term > receiver.term && !receiver.follow(m.term)) {
            return true;
        }
        boolean isForPrimary = m.kind != SHIP;
        if (isForPrimary != receiver.primary) {
            return false;
        }
        switch (m.kind) {
            case SHIP: takeShip(m, receiver); break;
            case ACK: takeAck(m.number, receiver); break;
            default: takeWant(m.number, receiver); break;
        }
        return true;
    }

    private void takeShip(Message m, Node receiver) {
        int i = m.number;
        if (receiver.length < i) {
            link.send(WANT, receiver, receiver.length);
        } else if (i > 0 && !receiver.hasEntryOfTerm(i - 1, m.termBefore)) {
            if (receiver.cutTo(i - 1)) {
                link.send(WANT, receiver, i - 1);
            }
        } else if (fitLog(m, receiver)) {
            link.send(ACK, receiver, i);
        }
    }

    /** Answers false when the receiver crashed on the way: then nothing more may be sent. */
    private static boolean fitLog(Message m, Node receiver) {
        int i = m.number;
        boolean differs = receiver.hasEntry(i) && !receiver.isEntry(i, m.entryTerm, m.key, m.value);
        if (differs && !receiver.cutTo(i)) {
            return false;
        }
        if (receiver.length == i && !receiver.append(m.entryTerm, m.key, m.value)) {
            return false;
        }
        return receiver.length <= m.senderLength || receiver.cutTo(m.senderLength);
    }

    private void takeAck(int i, Node primary) {
        primary.agreed = Math.max(primary.agreed, i);
        ship(primary, i + 1);
    }

    private void takeWant(int i, Node primary) {
        if (i >= 0) {
            ship(primary, Math.min(i, primary.length - 1));
        }
    }

    private void ship(Node sender, int i) {
        if (!sender.hasEntry(i)) {
            return;
        }
        Message m = link.send(SHIP, sender, i);
        if (m == null) {
            return;
        }
        m.entryTerm = sender.terms[i];
        m.key = sender.keys[i];
        m.value = sender.values[i];
        m.termBefore = i > 0 ? sender.terms[i - 1] : 0;
        m.senderLength = sender.length;
    }

    private static final class Node {
        final int number;
        final int[] terms;
        final int[] keys;
        final int[] values;
        int length;
        int term;
        boolean up;
        boolean primary;
        int agreed;
        int fuseLeft;
        int writes;

        Node(int number, int term, boolean primary) {
            this.number = number;
            this.term = term;
            this.primary = primary;
            terms = new int[MOST_ENTRIES];
            keys = new int[MOST_ENTRIES];
            values = new int[MOST_ENTRIES];
            up = true;
            agreed = NONE;
            fuseLeft = NONE;
        }

        void goDown() {
            up = false;
            primary = false;
            fuseLeft = NONE;
        }

        void comeUp() {
            up = true;
            fuseLeft = NONE;
        }

        /** Every write asks here first: a fuse that has run out stops it before the disk changes. */
        boolean startWrite() {
            if (fuseLeft == 0) {
                goDown();
                return false;
            }
            if (fuseLeft > 0) {
                fuseLeft--;
            }
            writes++;
            return true;
        }

        boolean append(int entryTerm, int key, int value) {
            if (length >= MOST_ENTRIES || !startWrite()) {
                return false;
            }
            terms[length] = entryTerm;
            keys[length] = key;
            values[length] = value;
            length++;
            return true;
        }

        boolean cutTo(int newLength) {
            if (!startWrite()) {
                return false;
            }
            length = newLength;
            return true;
        }

        boolean changeTerm(int newTerm) {
            if (!startWrite()) {
                return false;
            }
            term = newTerm;
            return true;
        }

        boolean follow(int newTerm) {
            if (!changeTerm(newTerm)) {
                return false;
            }
            primary = false;
            return true;
        }

        /** A term's remainder by 2 is its owner, so that two primaries never share a term. */
        int nextOwnTerm() {
            return (term + 1) % 2 == number ? term + 1 : term + 2;
        }

        boolean hasEntry(int i) {
            return i >= 0 && i < length;
        }

        boolean hasEntryOfTerm(int i, int entryTerm) {
            return hasEntry(i) && terms[i] == entryTerm;
        }

        boolean isEntry(int i, int entryTerm, int key, int value) {
            return hasEntryOfTerm(i, entryTerm) && keys[i] == key && values[i] == value;
        }
    }

    private static final class Message {
        int kind;
        int to;
        int term;
        int number;
        int entryTerm;
        int key;
        int value;
        int termBefore;
        int senderLength;
    }

    private static final class Link {
        final Message[] slots;
        Message spare;
        int count;

        Link() {
            slots = new Message[MOST_MESSAGES];
            for (int i = 0; i < MOST_MESSAGES; i++) {
                slots[i] = new Message();
            }
            spare = new Message();
        }

        boolean isFull() {
            return count >= MOST_MESSAGES;
        }

        Message at(int i) {
            return i >= 0 && i < count ? slots[i] : null;
        }

        /** Answers the message for what only its kind has, or null when a full link lost it. */
        Message send(int kind, Node sender, int number) {
            if (isFull()) {
                return null;
            }
            Message m = slots[count];
            count++;
            m.kind = kind;
            m.to = 1 - sender.number;
            m.term = sender.term;
            m.number = number;
            return m;
        }

        Message take(int i) {
            Message taken = at(i);
            if (taken == null) {
                return null;
            }
            for (int k = i; k < count - 1; k++) {
                slots[k] = slots[k + 1];
            }
            count--;
            // An answer to the taken message may be sent while it is still read: the spare
            // stands in for it until the next take, so that the answer is not written over it.
            slots[count] = spare;
            spare = taken;
            return taken;
        }
    }
}
