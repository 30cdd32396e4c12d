import java.util.ArrayList;
import java.util.Arrays;
import java.util.List;

/** A QuorumLedger with hands for tests: rows of bytes go onto the tape and come out of the sky, a block, a log. */
final class Bench {
    private static int wrong;

    final QuorumLedger x;
    final int nodes;
    final int honest;

    Bench(int f, int liars) {
        x = new QuorumLedger(f, liars);
        nodes = x.count(1);
        honest = nodes - x.count(6);
    }

    static void due(String what, long got, long want) {
        if (got != want) {
            wrong++;
            System.out.println(what + " is " + got + ", due is " + want);
        }
    }

    static void due(String what, boolean got, boolean want) {
        due(what, got ? 1 : 0, want ? 1 : 0);
    }

    static void due(String what, byte[] got, byte[] want) {
        if (!Arrays.equals(got, want)) {
            wrong++;
            System.out.println(what + " is " + Arrays.toString(got) + ", due is " + Arrays.toString(want));
        }
    }

    static void finish(String name) {
        System.out.println(name + ": " + (wrong == 0 ? "all answers are as due" : wrong + " answers are not as due"));
        if (wrong != 0) {
            System.exit(1);
        }
    }

    int flights() {
        return x.count(0);
    }

    /** Bytes come behind the tape, and 0s up to the next 20. */
    boolean put(byte[] m) {
        boolean all = true;
        for (int at = 0; at < m.length; at += 20) {
            int[] v = new int[5];
            for (int i = 0; i < 20; i++) {
                v[i / 4] = v[i / 4] << 8 | (at + i < m.length ? m[at + i] & 255 : 0);
            }
            all &= x.feed(v[0], v[1], v[2], v[3], v[4]);
        }
        return all;
    }

    /** A liar sends bytes. */
    boolean lie(int liar, int to, byte[] m) {
        put(m);
        return x.lie(liar, to, m.length);
    }

    /** A liar sends bytes, which are delivered at once. */
    void tell(int liar, int to, byte[] m) {
        due("lie", lie(liar, to, m), true);
        due("the lie's delivery", x.deliver(flights() - 1), m[0] & 255);
    }

    /** The first n bytes of the tape, which is empty then; the last node must be a liar. */
    byte[] tape(int n) {
        x.lie(nodes - 1, 0, n);
        byte[] m = flight(flights() - 1);
        x.deliver(flights() - 1);
        return m;
    }

    byte[] flight(int k) {
        byte[] m = new byte[Math.max(0, x.flying(k, 2))];
        for (int i = 0; i < m.length; i++) {
            m[i] = (byte) (x.bytes(k, i) >> 56);
        }
        return m;
    }

    /** Where the first message flies from a node to another one of a kind; -1 if none. */
    int find(int from, int to, int kind) {
        for (int k = 0; k < flights(); k++) {
            boolean ends = (from < 0 || x.flying(k, 0) == from) && (to < 0 || x.flying(k, 1) == to);
            if (ends && x.bytes(k, 0) >>> 56 == kind) {
                return k;
            }
        }
        return -1;
    }

    /** Delivers the first message that flies from a node to another one of a kind. */
    void bring(int from, int to, int kind) {
        int k = find(from, to, kind);
        due("a message of kind " + kind + " from " + from + " to " + to + " flies", k >= 0, true);
        x.deliver(k);
    }

    /** Delivers a PROPOSAL or vote of a round from the one that signed it. */
    void bringOwn(int from, int to, int kind, int round) {
        for (int k = 0; k < flights(); k++) {
            byte[] m = flight(k);
            if (x.flying(k, 0) == from && x.flying(k, 1) == to && m[0] == kind && m[1] == from && m[4] == round) {
                x.deliver(k);
                return;
            }
        }
        due("what " + from + " signed of kind " + kind + " and round " + round + " flies to " + to, false, true);
    }

    /** Delivers what comes from those that signed it, and nothing that is sent on, until a node is at a height. */
    void untilByOwn(int node, int height) {
        boolean found = true;
        while (found && x.state(node, 0) < height) {
            found = false;
            for (int k = 0; k < flights() && !found; k++) {
                long v = x.bytes(k, 0);
                found = v >>> 56 >= 1 && v >>> 56 <= 3 && (v >>> 48 & 255) == x.flying(k, 0);
                if (found) {
                    x.deliver(k);
                }
            }
        }
        due("the height of " + node, x.state(node, 0), height);
    }

    /** All that flies is delivered, the oldest first, and what is sent meanwhile. */
    void settle() {
        for (int i = 0; i < 20000 && flights() > 0; i++) {
            x.deliver(0);
        }
        due("what flies", flights(), 0);
    }

    /** Delivers, the oldest first, until a node is at a height. */
    void until(int node, int height) {
        for (int i = 0; i < 20000 && flights() > 0 && x.state(node, 0) < height; i++) {
            x.deliver(0);
        }
        due("the height of " + node, x.state(node, 0), height);
    }

    /** Copies until no more can fly. */
    void fill() {
        for (int i = flights(); i < 1000; i++) {
            due("copy", x.copy(0), true);
        }
        due("what flies", flights(), 1000);
    }

    byte[] block(int node, int height, int size) {
        byte[] b = new byte[size];
        for (int i = 0; i < size; i++) {
            b[i] = (byte) (x.block(node, height, i) >> 56);
        }
        return b;
    }

    byte[] sector(int node, int s, int size) {
        byte[] b = new byte[size];
        for (int i = 0; i < size; i++) {
            b[i] = (byte) (x.sector(node, s, i) >> 56);
        }
        return b;
    }

    /** The root of accounts as a node's calls tell them. */
    byte[] accountsRoot(int node) {
        List<byte[]> lines = new ArrayList<>();
        for (int k = 0; k < 16; k++) {
            lines.add(Plain.part(bytesOf(x.account(node, k, 0)), 0, 6));
        }
        return Plain.rootOf(lines);
    }

    static byte[] bytesOf(long v) {
        byte[] b = new byte[8];
        for (int i = 0; i < 8; i++) {
            b[i] = (byte) (v >> 56 - 8 * i);
        }
        return b;
    }

    static byte[] payment(int from, int to, int amount, int nonce, int tip) {
        return Plain.row(from, to, amount >> 8, amount, nonce >> 8, nonce, tip);
    }

    /** A block of height 1 with evidences and payments. */
    static byte[] firstBlock(int maker, List<byte[]> evidences, List<byte[]> payments) {
        List<byte[]> lines = new ArrayList<>();
        for (int k = 0; k < 16; k++) {
            lines.add(Plain.row(k, 1000 >> 8, 1000, 0, 0, 0));
        }
        return block(1, maker, new byte[32], Plain.rootOf(lines), evidences, payments);
    }

    static byte[] block(int height, int maker, byte[] ahead, byte[] accounts, List<byte[]> evidences,
        List<byte[]> payments) {
        List<byte[]> parts = new ArrayList<>(evidences);
        parts.addAll(payments);
        byte[] b = Plain.join(Plain.row(height >> 8, height, maker), ahead, accounts, Plain.rootOf(parts),
            Plain.row(payments.size(), evidences.size()));
        for (byte[] p : parts) {
            b = Plain.join(b, p);
        }
        return b;
    }

    static byte[] idOf(byte[] block) {
        return Plain.sha(Plain.part(block, 0, 101));
    }

    static byte[] proposal(int signer, int height, int round, int valid, byte[] block) {
        return Plain.join(Plain.row(1, signer, height >> 8, height, round, valid), block);
    }

    /** A vote for a block, or for none (null). */
    static byte[] vote(int kind, int signer, int height, int round, byte[] block) {
        byte[] end = block == null ? Plain.row(0) : Plain.join(Plain.row(1), idOf(block));
        return Plain.join(Plain.row(kind, signer, height >> 8, height, round), end);
    }

    /** An evidence of two ENDs, null for none. */
    static byte[] evidence(int signer, int kind, int height, int round, byte[] one, byte[] two) {
        byte[] first = one == null ? Plain.row(0) : Plain.join(Plain.row(1), one);
        return Plain.join(Plain.row(signer, kind, height >> 8, height, round), first, Plain.row(1), two);
    }

    static byte[] filled(int value) {
        byte[] b = new byte[32];
        Arrays.fill(b, (byte) value);
        return b;
    }
}
