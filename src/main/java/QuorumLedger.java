import java.util.Arrays;

/**
 * Nodes that agree on a chain of blocks of payments, though up to a third of them lie.
 * What each call answers is told, as numbered promises, in the project's document.
 */
public final class QuorumLedger {
    private static final int HEAD = 101;
    private static final int ID = 32;
    private static final int AHEAD_AT = 3;
    private static final int ACCOUNTS_ROOT_AT = 35;
    private static final int ROOT_AT = 67;
    private static final int PAYMENTS_AT = 99;
    private static final int EVIDENCES_AT = 100;
    private static final int PROPOSAL_BLOCK = 6;
    private static final int DECIDED_BLOCK = 1;
    private static final int PAYMENT_SIZE = 7;
    private static final int SHORT_EVIDENCE = 39;
    private static final int LONG_EVIDENCE = 71;
    private static final int SNAPSHOT_SIZE = 115;
    private static final int MOST_PAYMENTS = 64;
    private static final int MOST_EVIDENCES = 2;
    private static final int ACCOUNTS = 16;
    private static final int ACCOUNT_SIZE = 6;
    private static final int ROUNDS = 16;
    private static final int NO_ROUND = 255;
    private static final int LAST_HEIGHT = 40;

    private static final int PAYMENT = 0;
    private static final int PROPOSAL = 1;
    private static final int PREVOTE = 2;
    private static final int PRECOMMIT = 3;
    private static final int DECIDED = 4;
    private static final int ASK = 5;
    private static final int EVIDENCE = 6;
    private static final int SNAPSHOT = 7;

    private static final int NOTE_CHAIN = 1;
    private static final int NOTE_ROUND = 2;
    private static final int NOTE_SENT = 3;
    private static final int NOTE_LOCK = 4;
    private static final int NOTE_VALID = 5;
    private static final int NOTE_SNAP = 6;

    private static final int PROPOSE_STEP = 0;
    private static final int PREVOTE_STEP = 1;
    private static final int PRECOMMIT_STEP = 2;

    private static final int TAPE = 1000;
    private static final int FED_AT_ONCE = 20;
    private static final int MOST_CALM = 5000;

    private final World world;
    private final byte[] tape = new byte[TAPE];
    private final byte[] answer = new byte[1024];
    private int fed;

    public QuorumLedger(int f, int liars) {
        int faults = f >= 1 && f <= 4 ? f : 1;
        world = World.found(faults, liars >= 0 && liars <= faults ? liars : 0);
    }

    public boolean feed(int a, int b, int c, int d, int e) {
        if (fed + FED_AT_ONCE > TAPE) {
            return false;
        }
        putInt(a);
        putInt(b);
        putInt(c);
        putInt(d);
        putInt(e);
        return true;
    }

    private void putInt(int value) {
        for (int shift = 24; shift >= 0 && fed < TAPE; shift -= 8) {
            tape[fed] = (byte) (value >> shift);
            fed++;
        }
    }

    public boolean lie(int liar, int to, int n) {
        if (!mayLie(liar, to) || n < 1 || n > fed) {
            return false;
        }
        Message m = world.sky.fresh(n);
        System.arraycopy(tape, 0, m.row, 0, n);
        boolean forged = world.form.look(m) && world.form.tellsBelow(m, world.honest);
        if (!forged) {
            world.sky.post(liar, to, m);
            fed = 0;
        }
        world.sky.drop(m);
        return !forged;
    }

    public boolean pass(int liar, int to, int k) {
        Message m = world.sky.loadOf(k);
        if (m == null || !mayLie(liar, to)) {
            return false;
        }
        world.sky.post(liar, to, m);
        return true;
    }

    private boolean mayLie(int liar, int to) {
        return liar >= world.honest && liar < world.total && to >= 0 && to < world.total
            && liar != to && world.sky.hasRoom();
    }

    public int seal(int at, int n, int node) {
        if (at < 0 || n < 0 || n > fed || n - at < HEAD) {
            return -1;
        }
        int place = behindEvidences(at, n);
        if (place < 0) {
            tape[at + EVIDENCES_AT] = 0;
            place = at + HEAD;
        }
        int payments = Math.min(MOST_PAYMENTS, (n - place) / PAYMENT_SIZE);
        tape[at + PAYMENTS_AT] = (byte) payments;
        world.hasher.plant(tape, at);
        world.hasher.climb(-1, tape, at);
        world.hasher.top(tape, at + ROOT_AT);
        Node known = honestNode(node);
        if (known != null) {
            System.arraycopy(known.lastId, 0, tape, at + AHEAD_AT, ID);
            System.arraycopy(known.book.root, 0, tape, at + ACCOUNTS_ROOT_AT, ID);
        }
        return payments;
    }

    /** Where the payments of a block on the tape start, or -1 if its evidences do not stand whole. */
    private int behindEvidences(int at, int n) {
        int evidences = tape[at + EVIDENCES_AT] & 255;
        if (evidences > MOST_EVIDENCES) {
            return -1;
        }
        int place = at + HEAD;
        for (int e = 0; e < evidences; e++) {
            int size = Form.evidenceSize(tape, place, n);
            if (size < 0) {
                return -1;
            }
            place += size;
        }
        return place;
    }

    public boolean stamp(int at, int k, int from) {
        if (at < 0 || at > fed - ID) {
            return false;
        }
        if (k == -1) {
            if (from < 0 || from > fed - HEAD) {
                return false;
            }
            world.hasher.digest(tape, from, from + HEAD, tape, at);
            return true;
        }
        Message m = world.sky.loadOf(k);
        int head = m == null ? -1 : m.blockAt();
        if (m == null || head < 0 || m.length - head < HEAD) {
            return false;
        }
        world.hasher.digest(m.row, head, head + HEAD, tape, at);
        return true;
    }

    public long hash(int n, int k) {
        if (n < 0 || n > fed || k < 0 || k > 3) {
            return 0;
        }
        world.hasher.digest(tape, 0, n, answer, 0);
        return eight(answer, ID, 8 * k);
    }

    public boolean submit(int node, int from, int to, int amount, int nonce, int tip) {
        Node n = honestNode(node);
        if (n == null || !n.up || from < 0 || from >= ACCOUNTS || to < 0 || to >= ACCOUNTS || from == to) {
            return false;
        }
        if (amount < 1 || amount > 1000 || nonce < 0 || nonce > 65535 || tip < 1 || tip > 9) {
            return false;
        }
        long code = (long) from << 48 | (long) to << 40 | (long) amount << 24 | (long) nonce << 8 | tip;
        if (!n.shelf.addPayment(code)) {
            return false;
        }
        Message m = world.sky.fresh(1 + PAYMENT_SIZE);
        m.row[0] = PAYMENT;
        Book.putCode(code, m.row, 1);
        world.spread(node, m, node, node);
        world.sky.drop(m);
        return true;
    }

    public int deliver(int k) {
        return world.land(k);
    }

    public int calm(int n, int d) {
        if (n < 1 || n > 64 || d < 0 || d > 9) {
            return -1;
        }
        int delivered = 0;
        for (int i = 0; i < n; i++) {
            for (; delivered < MOST_CALM && world.sky.isRipe(d); delivered++) {
                world.land(0);
            }
            world.passTime();
        }
        return delivered;
    }

    public boolean copy(int k) {
        Sky sky = world.sky;
        Message m = sky.loadOf(k);
        if (m == null || !sky.hasRoom()) {
            return false;
        }
        sky.launch(sky.senderOf(k), sky.receiverOf(k), m);
        return true;
    }

    public int flying(int k, int what) {
        Message m = world.sky.loadOf(k);
        if (m == null) {
            return -1;
        }
        switch (what) {
            case 0:
                return world.sky.senderOf(k);
            case 1:
                return world.sky.receiverOf(k);
            case 2:
                return m.length;
            default:
                return -1;
        }
    }

    public long bytes(int k, int i) {
        Message m = world.sky.loadOf(k);
        return m == null || i < 0 ? -1 : eight(m.row, m.length, i);
    }

    public int tick() {
        return world.passTime();
    }

    public boolean crash(int node) {
        Node n = honestNode(node);
        if (n == null || !n.up) {
            return false;
        }
        n.fall();
        return true;
    }

    public boolean cut(int node, int k) {
        Node n = honestNode(node);
        if (n == null || k < 0 || k > 1000) {
            return false;
        }
        n.log.cutIn = k;
        return true;
    }

    public boolean restart(int node) {
        Node n = honestNode(node);
        if (n == null || n.up) {
            return false;
        }
        n.wake();
        Rules.settle(n);
        return true;
    }

    public int state(int node, int what) {
        Node n = honestNode(node);
        if (n == null) {
            return -1;
        }
        switch (what) {
            case 0: return n.height;
            case 1: return n.round;
            case 2: return n.step;
            case 3: return n.lockedRound;
            case 4: return n.validRound;
            case 5: return n.up ? 1 : 0;
            case 6: return n.shelf.pooled;
            case 7: return n.timersSet();
            case 8: return n.sent;
            case 9: return n.log.whole;
            case 10: return n.log.written;
            case 11: return n.shelf.proven;
            default: return -1;
        }
    }

    public long block(int node, int height, int i) {
        Node n = honestNode(node);
        if (n == null || i < 0 || height < -1 || height > LAST_HEIGHT) {
            return -1;
        }
        if (height > 0) {
            int size = n.log.fetch(height, world.desk, 0);
            return size < 0 ? -1 : eight(world.desk, size, i);
        }
        Message m = height == 0 ? n.locked : n.valid;
        if (m == null) {
            return -1;
        }
        return i > m.length ? 0 : eight(m.row, m.length, i + PROPOSAL_BLOCK);
    }

    public int paid(int node, int signer) {
        Node n = honestNode(node);
        if (n == null || signer < 0 || signer >= world.total) {
            return -1;
        }
        return (n.book.hasPaid(signer) ? 1 : 0) + (n.shelf.proofOf(signer) != null ? 2 : 0);
    }

    public long path(int node, int height, int k, int i) {
        Node n = honestNode(node);
        if (n == null || height < 1 || height > LAST_HEIGHT || k < 0 || i < 0) {
            return -1;
        }
        if (n.log.fetch(height, world.desk, 0) < 0) {
            return -1;
        }
        world.hasher.plant(world.desk, 0);
        if (k >= world.hasher.standing) {
            return -1;
        }
        return eight(answer, world.hasher.climb(k, answer, 0), i);
    }

    public long account(int node, int k, int i) {
        Node n = honestNode(node);
        if (n == null || k < 0 || k >= ACCOUNTS || i < 0) {
            return -1;
        }
        n.book.plant(world.hasher);
        n.book.encode(k, answer, 0);
        return eight(answer, ACCOUNT_SIZE + world.hasher.climb(k, answer, ACCOUNT_SIZE), i);
    }

    public long sector(int node, int s, int i) {
        Node n = honestNode(node);
        if (n == null || i < 0 || !n.log.canRead(s)) {
            return -1;
        }
        return eight(n.log.sectors[s], Log.SECTOR, i);
    }

    public boolean proof(int what, int at, int n) {
        if (what < 0 || what > 1 || at < HEAD + 1 || n < at || n > fed) {
            return false;
        }
        Hasher hasher = world.hasher;
        hasher.open();
        hasher.add(0);
        hasher.add(tape, HEAD, at);
        hasher.close(answer, 0);
        int place = at;
        while (place < n) {
            int side = tape[place];
            place++;
            if (side == 0) {
                continue;
            }
            if (side != 1 && side != 2 || n - place < ID) {
                return false;
            }
            hasher.open();
            hasher.add(1);
            hasher.add(side == 1 ? tape : answer, side == 1 ? place : 0, side == 1 ? place + ID : ID);
            hasher.add(side == 1 ? answer : tape, side == 1 ? 0 : place, side == 1 ? ID : place + ID);
            hasher.close(answer, 0);
            place += ID;
        }
        return sameBytes(answer, 0, tape, what == 0 ? ROOT_AT : ACCOUNTS_ROOT_AT, ID);
    }

    public int balance(int node, int account) {
        Node n = honestNode(node);
        return n == null || account < 0 || account >= ACCOUNTS ? -1 : n.book.has[account];
    }

    public int count(int what) {
        switch (what) {
            case 0: return world.sky.flights;
            case 1: return world.total;
            case 2: return world.sky.ticks;
            case 3: return world.sky.sent;
            case 4: return world.sky.lost;
            case 5: return fed;
            case 6: return world.total - world.honest;
            default: return -1;
        }
    }

    private Node honestNode(int node) {
        return node >= 0 && node < world.honest ? world.nodes[node] : null;
    }

    private static long eight(byte[] row, int end, int i) {
        long value = 0;
        for (int j = 0; j < 8; j++) {
            // i may be so great that i + j wraps around
            boolean there = i >= 0 && i < end - j && i < row.length - j;
            value = value << 8 | (there ? row[i + j] & 255 : 0);
        }
        return value;
    }

    private static boolean sameBytes(byte[] a, int aAt, byte[] b, int bAt, int size) {
        if (aAt < 0 || bAt < 0 || a.length - aAt < size || b.length - bAt < size) {
            return false;
        }
        for (int i = 0; i < size; i++) {
            if (a[aAt + i] != b[bAt + i]) {
                return false;
            }
        }
        return true;
    }

    private static int twoBytes(byte[] row, int at) {
        return at < 0 || at > row.length - 2 ? 0 : (row[at] & 255) << 8 | row[at + 1] & 255;
    }

    private static void putTwo(byte[] row, int at, int value) {
        if (at >= 0 && at <= row.length - 2) {
            row[at] = (byte) (value >> 8);
            row[at + 1] = (byte) value;
        }
    }

    /** SHA-256, and the tree of hashes over a row of parts. */
    private static final class Hasher {
        private static final int MOST_TEXT = 1024;
        private static final int MOST_LEAVES = MOST_PAYMENTS + MOST_EVIDENCES;
        private static final int[] FIRST = {
            0x6a09e667, 0xbb67ae85, 0x3c6ef372, 0xa54ff53a, 0x510e527f, 0x9b05688c, 0x1f83d9ab, 0x5be0cd19
        };
        private static final int[] ADDED = {
            0x428a2f98, 0x71374491, 0xb5c0fbcf, 0xe9b5dba5, 0x3956c25b, 0x59f111f1, 0x923f82a4, 0xab1c5ed5,
            0xd807aa98, 0x12835b01, 0x243185be, 0x550c7dc3, 0x72be5d74, 0x80deb1fe, 0x9bdc06a7, 0xc19bf174,
            0xe49b69c1, 0xefbe4786, 0x0fc19dc6, 0x240ca1cc, 0x2de92c6f, 0x4a7484aa, 0x5cb0a9dc, 0x76f988da,
            0x983e5152, 0xa831c66d, 0xb00327c8, 0xbf597fc7, 0xc6e00bf3, 0xd5a79147, 0x06ca6351, 0x14292967,
            0x27b70a85, 0x2e1b2138, 0x4d2c6dfc, 0x53380d13, 0x650a7354, 0x766a0abb, 0x81c2c92e, 0x92722c85,
            0xa2bfe8a1, 0xa81a664b, 0xc24b8b70, 0xc76c51a3, 0xd192e819, 0xd6990624, 0xf40e3585, 0x106aa070,
            0x19a4c116, 0x1e376c08, 0x2748774c, 0x34b0bcb5, 0x391c0cb3, 0x4ed8aa4a, 0x5b9cca4f, 0x682e6ff3,
            0x748f82ee, 0x78a5636f, 0x84c87814, 0x8cc70208, 0x90befffa, 0xa4506ceb, 0xbef9a3f7, 0xc67178f2
        };

        private final byte[] text = new byte[MOST_TEXT + 64];
        private final int[] words = new int[64];
        private final int[] sums = new int[8];
        private final byte[] leaves = new byte[MOST_LEAVES * ID];
        private int length;
        int standing;

        void open() {
            length = 0;
        }

        void add(int b) {
            if (length < MOST_TEXT) {
                text[length] = (byte) b;
                length++;
            }
        }

        void add(byte[] row, int from, int to) {
            if (from >= 0 && to >= from && to <= row.length && length + to - from <= MOST_TEXT) {
                System.arraycopy(row, from, text, length, to - from);
                length += to - from;
            }
        }

        void close(byte[] out, int at) {
            int bits = 8 * length;
            int end = (length + 72) / 64 * 64;
            Arrays.fill(text, length, end, (byte) 0);
            text[length] = (byte) 128;
            text[end - 2] = (byte) (bits >> 8);
            text[end - 1] = (byte) bits;
            System.arraycopy(FIRST, 0, sums, 0, 8);
            for (int start = 0; start < end; start += 64) {
                squeeze(start);
            }
            if (at >= 0 && at <= out.length - ID) {
                for (int i = 0; i < ID; i++) {
                    out[at + i] = (byte) (sums[i >> 2] >> 24 - 8 * (i & 3));
                }
            }
        }

        private void squeeze(int start) {
            int[] w = words;
            for (int i = 0, at = start; i < 16; i++, at += 4) {
                w[i] = text[at] << 24 | (text[at + 1] & 255) << 16 | (text[at + 2] & 255) << 8 | text[at + 3] & 255;
            }
            for (int i = 16; i < 64; i++) {
                int x = w[i - 15];
                int y = w[i - 2];
                w[i] = w[i - 16] + w[i - 7] + ((x >>> 7 | x << 25) ^ (x >>> 18 | x << 14) ^ x >>> 3)
                    + ((y >>> 17 | y << 15) ^ (y >>> 19 | y << 13) ^ y >>> 10);
            }
            int a = sums[0];
            int b = sums[1];
            int c = sums[2];
            int d = sums[3];
            int e = sums[4];
            int f = sums[5];
            int g = sums[6];
            int h = sums[7];
            for (int i = 0; i < 64; i++) {
                int one = h + ((e >>> 6 | e << 26) ^ (e >>> 11 | e << 21) ^ (e >>> 25 | e << 7))
                    + (g ^ e & (f ^ g)) + ADDED[i] + w[i];
                int two = ((a >>> 2 | a << 30) ^ (a >>> 13 | a << 19) ^ (a >>> 22 | a << 10)) + (a & b | c & (a | b));
                h = g;
                g = f;
                f = e;
                e = d + one;
                d = c;
                c = b;
                b = a;
                a = one + two;
            }
            sums[0] += a;
            sums[1] += b;
            sums[2] += c;
            sums[3] += d;
            sums[4] += e;
            sums[5] += f;
            sums[6] += g;
            sums[7] += h;
        }

        void digest(byte[] row, int from, int to, byte[] out, int at) {
            open();
            add(row, from, to);
            close(out, at);
        }

        void clear() {
            standing = 0;
        }

        void leaf(byte[] row, int from, int to) {
            if (standing < MOST_LEAVES) {
                open();
                add(0);
                add(row, from, to);
                close(leaves, standing * ID);
                standing++;
            }
        }

        /** The parts of the block whose head stands at a place of a row become the leaves. */
        void plant(byte[] row, int at) {
            standing = 0;
            if (at < 0 || at > row.length - HEAD) {
                return;
            }
            int evidences = row[at + EVIDENCES_AT] & 255;
            int parts = evidences + (row[at + PAYMENTS_AT] & 255);
            int place = at + HEAD;
            for (int part = 0; part < parts && part < MOST_LEAVES; part++) {
                int size = part < evidences ? Form.evidenceSize(row, place, row.length) : PAYMENT_SIZE;
                open();
                add(0);
                add(row, place, place + size);
                close(leaves, part * ID);
                standing++;
                place += size;
            }
        }

        /** Folds the leaves into their root; the steps of leaf k are written, and their size is told. */
        int climb(int k, byte[] out, int at) {
            int leaf = k;
            int end = at;
            for (int left = standing; left > 1; left = (left + 1) / 2) {
                if (leaf >= 0) {
                    end = step(leaf, left, out, end);
                    leaf = leaf / 2;
                }
                for (int i = 0; i < left / 2; i++) {
                    open();
                    add(1);
                    add(leaves, 2 * i * ID, (2 * i + 2) * ID);
                    close(leaves, i * ID);
                }
                if ((left & 1) == 1) {
                    System.arraycopy(leaves, (left - 1) * ID, leaves, left / 2 * ID, ID);
                }
            }
            return end - at;
        }

        private int step(int leaf, int left, byte[] out, int at) {
            boolean second = (leaf & 1) == 1;
            int other = second ? leaf - 1 : leaf + 1;
            if (at < 0 || at > out.length - 1 - ID || other < 0 || leaf >= left) {
                return at;
            }
            if (other >= left) {
                out[at] = 0;
                return at + 1;
            }
            out[at] = (byte) (second ? 1 : 2);
            System.arraycopy(leaves, other * ID, out, at + 1, ID);
            return at + 1 + ID;
        }

        /** What climb left on top. */
        void top(byte[] out, int at) {
            if (at < 0 || at > out.length - ID) {
                return;
            }
            if (standing == 0) {
                Arrays.fill(out, at, at + ID, (byte) 0);
            } else {
                System.arraycopy(leaves, 0, out, at, ID);
            }
        }
    }

    /** Bytes that are sent, in a row that is used again when nobody has them any more. */
    private static final class Message {
        private static final int UNSEEN = 0;
        private static final int WELL = 1;
        private static final int ILL = 2;

        final byte[] row;
        /** Of a PROPOSAL or DECIDED its block's id, of a vote for a block that one's. */
        final long[] id = new long[4];
        int length;
        int users;
        int form;
        boolean named;
        Message next;

        Message(int size) {
            row = new byte[size];
        }

        int at(int i) {
            return i >= 0 && i < length ? row[i] & 255 : 0;
        }

        int two(int i) {
            return i >= 0 && i < length - 1 ? (row[i] & 255) << 8 | row[i + 1] & 255 : 0;
        }

        int kind() {
            return length > 0 ? row[0] & 255 : 0;
        }

        int signer() {
            return length > 1 ? row[1] & 255 : 0;
        }

        int blockAt() {
            return kind() == PROPOSAL ? PROPOSAL_BLOCK : kind() == DECIDED ? DECIDED_BLOCK : -1;
        }

        void readId(byte[] from, int at) {
            named = at >= 0 && at <= from.length - ID;
            for (int i = 0; i < 4 && named; i++) {
                id[i] = eight(from, from.length, at + 8 * i);
            }
        }

        void writeId(byte[] to, int at) {
            if (at < 0 || at > to.length - ID) {
                return;
            }
            for (int i = 0; i < ID; i++) {
                to[at + i] = (byte) (id[i >> 3] >> 56 - 8 * (i & 7));
            }
        }

        boolean isFor(Message other) {
            long[] a = id;
            long[] b = other.id;
            return named && other.named && a[0] == b[0] && a[1] == b[1] && a[2] == b[2] && a[3] == b[3];
        }

        boolean endsLike(Message other) {
            return named ? isFor(other) : !other.named;
        }

        /** Whether its END is the lesser one of two that are not the same. */
        boolean endsBelow(Message other) {
            for (int i = 0; i < 4 && named && other.named; i++) {
                if (id[i] != other.id[i]) {
                    return Long.compareUnsigned(id[i], other.id[i]) < 0;
                }
            }
            return !named;
        }
    }

    /** What flies, in its order, and the rows for it. */
    private static final class Sky {
        private static final int MOST = 1000;
        private static final int RING = 1024;
        private static final int SMALL = 128;

        /** A ring of slots: a place beyond its end is one at its start. */
        private final int[] order = new int[RING];
        private final int[] vacant = new int[MOST];
        private final int[] senders = new int[MOST];
        private final int[] receivers = new int[MOST];
        private final int[] times = new int[MOST];
        private final Message[] loads = new Message[MOST];
        private int first;
        private Message smallRows;
        private Message greatRows;
        int flights;
        int ticks;
        int sent;
        int lost;

        Sky() {
            for (int i = 0; i < MOST; i++) {
                vacant[i] = i;
            }
        }

        boolean hasRoom() {
            return flights < MOST;
        }

        private int slot(int k) {
            return k >= 0 && k < flights ? order[first + k & RING - 1] : -1;
        }

        Message loadOf(int k) {
            int slot = slot(k);
            return slot < 0 ? null : loads[slot];
        }

        int senderOf(int k) {
            int slot = slot(k);
            return slot < 0 ? -1 : senders[slot];
        }

        int receiverOf(int k) {
            int slot = slot(k);
            return slot < 0 ? -1 : receivers[slot];
        }

        /** Times never fall along the order, so the oldest alone tells. */
        boolean isRipe(int d) {
            int slot = slot(0);
            return slot >= 0 && times[slot] + d <= ticks;
        }

        void post(int from, int to, Message m) {
            sent++;
            if (flights < MOST) {
                launch(from, to, m);
            } else {
                lost++;
            }
        }

        void launch(int from, int to, Message m) {
            if (flights >= MOST) {
                return;
            }
            int slot = vacant[flights];
            order[first + flights & RING - 1] = slot;
            flights++;
            senders[slot] = from;
            receivers[slot] = to;
            times[slot] = ticks;
            loads[slot] = m;
            m.users++;
        }

        /** Takes a message out of the sky; its row stays the taker's until dropped. */
        Message take(int k) {
            int slot = slot(k);
            if (slot < 0) {
                return null;
            }
            Message m = loads[slot];
            loads[slot] = null;
            for (int i = k; i > 0; i--) {
                order[first + i & RING - 1] = order[first + i - 1 & RING - 1];
            }
            first = first + 1 & RING - 1;
            flights--;
            vacant[flights] = slot;
            return m;
        }

        /** A message of a length, nothing of it written, with one user: the one who asks. */
        Message fresh(int length) {
            boolean small = length <= SMALL;
            Message m = small ? smallRows : greatRows;
            if (m == null) {
                m = new Message(small ? SMALL : TAPE);
            } else if (small) {
                smallRows = m.next;
            } else {
                greatRows = m.next;
            }
            m.next = null;
            m.length = Math.max(0, Math.min(length, m.row.length));
            m.users = 1;
            m.form = Message.UNSEEN;
            m.named = false;
            return m;
        }

        void drop(Message m) {
            if (m == null) {
                return;
            }
            m.users--;
            if (m.users > 0) {
                return;
            }
            if (m.row.length == SMALL) {
                m.next = smallRows;
                smallRows = m;
            } else {
                m.next = greatRows;
                greatRows = m;
            }
        }
    }

    /** Tells whether bytes are well formed. */
    private static final class Form {
        private final Hasher hasher;
        private final int nodes;
        private final byte[] digest = new byte[ID];

        Form(Hasher hasher, int nodes) {
            this.hasher = hasher;
            this.nodes = nodes;
        }

        /** Whether a message is well formed; one that is learns its id. */
        boolean look(Message m) {
            if (m.form == Message.UNSEEN) {
                m.form = m.length > 0 && fits(m.row, m.length) ? Message.WELL : Message.ILL;
                if (m.form == Message.WELL) {
                    name(m);
                }
            }
            return m.form == Message.WELL;
        }

        private void name(Message m) {
            int head = m.blockAt();
            if (head >= 0) {
                hasher.digest(m.row, head, head + HEAD, digest, 0);
                m.readId(digest, 0);
            } else if ((m.kind() == PREVOTE || m.kind() == PRECOMMIT) && m.at(5) == 1) {
                m.readId(m.row, 6);
            }
        }

        private boolean fits(byte[] row, int length) {
            switch (row[0]) {
                case PAYMENT:
                    return length == 1 + PAYMENT_SIZE && paymentFits(row, 1);
                case PROPOSAL:
                    return length >= PROPOSAL_BLOCK + HEAD && signFits(row)
                        && ((row[5] & 255) < ROUNDS || (row[5] & 255) == NO_ROUND)
                        && twoBytes(row, 2) == twoBytes(row, PROPOSAL_BLOCK) && blockFits(row, PROPOSAL_BLOCK, length);
                case PREVOTE:
                case PRECOMMIT:
                    return (length == 6 && row[5] == 0 || length == 6 + ID && row[5] == 1) && signFits(row);
                case DECIDED:
                    return blockFits(row, DECIDED_BLOCK, length);
                case ASK:
                    return length == 3 && heightFits(row, 1);
                case EVIDENCE:
                    return evidenceFits(row, 1, length) == length;
                case SNAPSHOT:
                    return length == SNAPSHOT_SIZE && snapshotFits(row);
                default:
                    return false;
            }
        }

        private boolean signFits(byte[] row) {
            return (row[1] & 255) < nodes && heightFits(row, 2) && (row[4] & 255) < ROUNDS;
        }

        private static boolean heightFits(byte[] row, int at) {
            int height = twoBytes(row, at);
            return height >= 1 && height <= LAST_HEIGHT + 1;
        }

        private static boolean paymentFits(byte[] row, int at) {
            if (at < 0 || at > row.length - PAYMENT_SIZE) {
                return false;
            }
            int from = row[at] & 255;
            int to = row[at + 1] & 255;
            int amount = twoBytes(row, at + 2);
            return from < ACCOUNTS && to < ACCOUNTS && from != to && amount >= 1 && amount <= 1000
                && row[at + 6] >= 1 && row[at + 6] <= 9;
        }

        /** How many bytes an evidence has that stands whole ahead of an end, whatever it tells; else -1. */
        static int evidenceSize(byte[] row, int at, int end) {
            if (at < 0 || end > row.length || end - at < SHORT_EVIDENCE) {
                return -1;
            }
            if (row[at + 5] == 0) {
                return row[at + 6] == 1 ? SHORT_EVIDENCE : -1;
            }
            boolean whole = row[at + 5] == 1 && end - at >= LONG_EVIDENCE && row[at + 6 + ID] == 1;
            return whole ? LONG_EVIDENCE : -1;
        }

        /** Where a well formed evidence ends, or -1. */
        private int evidenceFits(byte[] row, int at, int end) {
            int size = evidenceSize(row, at, end);
            if (size < 0 || (row[at] & 255) >= nodes || row[at + 1] < PROPOSAL || row[at + 1] > PRECOMMIT) {
                return -1;
            }
            if (!heightFits(row, at + 2) || (row[at + 4] & 255) >= ROUNDS) {
                return -1;
            }
            boolean ordered = size == SHORT_EVIDENCE ? row[at + 1] != PROPOSAL : isLess(row, at + 6, at + 7 + ID);
            return ordered ? at + size : -1;
        }

        private static boolean isLess(byte[] row, int a, int b) {
            for (int i = 0; i < ID; i++) {
                if (row[a + i] != row[b + i]) {
                    return (row[a + i] & 255) < (row[b + i] & 255);
                }
            }
            return false;
        }

        private boolean blockFits(byte[] row, int at, int end) {
            if (end - at < HEAD || !heightFits(row, at) || (row[at + 2] & 255) >= nodes) {
                return false;
            }
            int payments = row[at + PAYMENTS_AT] & 255;
            int evidences = row[at + EVIDENCES_AT] & 255;
            if (payments > MOST_PAYMENTS || evidences > MOST_EVIDENCES) {
                return false;
            }
            int place = at + HEAD;
            for (int e = 0; e < evidences; e++) {
                place = evidenceFits(row, place, end);
                if (place < 0) {
                    return false;
                }
            }
            if (end - place != payments * PAYMENT_SIZE) {
                return false;
            }
            for (int p = 0; p < payments; p++) {
                if (!paymentFits(row, place + p * PAYMENT_SIZE)) {
                    return false;
                }
            }
            hasher.plant(row, at);
            hasher.climb(-1, digest, 0);
            hasher.top(digest, 0);
            return sameBytes(digest, 0, row, at + ROOT_AT, ID);
        }

        private static boolean snapshotFits(byte[] row) {
            int height = twoBytes(row, 1);
            if (height < 2 || height > LAST_HEIGHT + 1) {
                return false;
            }
            for (int k = 0, at = 3 + ID; k < ACCOUNTS; k++, at += ACCOUNT_SIZE - 1) {
                if (twoBytes(row, at) > 16000 || row[at + 4] != 0 && row[at + 4] != 1) {
                    return false;
                }
            }
            return true;
        }

        /** Whether a well formed message tells a signer whose number is below a limit. */
        boolean tellsBelow(Message m, int limit) {
            int kind = m.kind();
            if ((kind == PROPOSAL || kind == PREVOTE || kind == PRECOMMIT || kind == EVIDENCE) && m.signer() < limit) {
                return true;
            }
            int head = m.blockAt();
            int evidences = head < 0 ? 0 : m.at(head + EVIDENCES_AT);
            int place = head + HEAD;
            for (int e = 0; e < evidences && e < MOST_EVIDENCES; e++) {
                if (m.at(place) < limit) {
                    return true;
                }
                place += evidenceSize(m.row, place, m.length);
            }
            return false;
        }
    }

    /** What the accounts have. */
    private static final class Book {
        private static final int MOST_GIVEN = 100;

        final int[] has = new int[ACCOUNTS];
        final int[] made = new int[ACCOUNTS];
        /** Bit k is 1 if node k has paid. */
        private int fined;
        final byte[] root = new byte[ID];
        private final byte[] line = new byte[ACCOUNT_SIZE];
        private boolean stale = true;

        Book() {
            Arrays.fill(has, 1000);
        }

        void mirror(Book other) {
            System.arraycopy(other.has, 0, has, 0, ACCOUNTS);
            System.arraycopy(other.made, 0, made, 0, ACCOUNTS);
            fined = other.fined;
        }

        boolean hasPaid(int k) {
            return (fined >> k & 1) == 1;
        }

        boolean punish(int signer, int maker) {
            if (signer < 0 || signer >= ACCOUNTS || maker < 0 || maker >= ACCOUNTS) {
                return false;
            }
            if ((fined >> signer & 1) == 1) {
                return false;
            }
            int given = has[signer] < MOST_GIVEN ? has[signer] : MOST_GIVEN;
            fined |= 1 << signer;
            has[signer] -= given;
            has[maker] += given;
            return true;
        }

        boolean pay(long code, int maker) {
            int from = (int) (code >> 48) & 255;
            int to = (int) (code >> 40) & 255;
            int amount = (int) (code >> 24) & 65535;
            int nonce = (int) (code >> 8) & 65535;
            int tip = (int) code & 255;
            if (from >= ACCOUNTS || to >= ACCOUNTS || maker < 0 || maker >= ACCOUNTS) {
                return false;
            }
            if (nonce != made[from] || has[from] < amount + tip) {
                return false;
            }
            made[from]++;
            has[from] -= amount + tip;
            has[to] += amount;
            has[maker] += tip;
            return true;
        }

        /** Does the parts of a well formed block, one behind the other, as far as they can be done. */
        boolean play(byte[] row, int at, int end) {
            stale = true;
            if (at < 0 || end > row.length || end - at < HEAD) {
                return false;
            }
            int maker = row[at + 2] & 255;
            int place = at + HEAD;
            int evidences = row[at + EVIDENCES_AT] & 255;
            for (int e = 0; e < evidences && e < MOST_EVIDENCES; e++) {
                int size = Form.evidenceSize(row, place, end);
                if (size < 0 || !punish(row[place] & 255, maker)) {
                    return false;
                }
                place += size;
            }
            for (; place <= end - PAYMENT_SIZE; place += PAYMENT_SIZE) {
                if (!pay(codeAt(row, place), maker)) {
                    return false;
                }
            }
            return true;
        }

        static long codeAt(byte[] row, int at) {
            long code = 0;
            for (int i = at; i >= 0 && i < at + PAYMENT_SIZE && i < row.length; i++) {
                code = code << 8 | row[i] & 255;
            }
            return code;
        }

        static void putCode(long code, byte[] row, int at) {
            for (int i = 0; i < PAYMENT_SIZE && at >= 0 && at + i < row.length; i++) {
                row[at + i] = (byte) (code >> 48 - 8 * i);
            }
        }

        void encode(int k, byte[] out, int at) {
            if (k < 0 || k >= ACCOUNTS || at < 0 || at > out.length - ACCOUNT_SIZE) {
                return;
            }
            out[at] = (byte) k;
            putTwo(out, at + 1, has[k]);
            putTwo(out, at + 3, made[k]);
            out[at + 5] = (byte) (hasPaid(k) ? 1 : 0);
        }

        /** Takes the accounts over from a SNAPSHOT. */
        void load(byte[] row) {
            stale = true;
            fined = 0;
            for (int k = 0, at = 3 + ID; k < ACCOUNTS && at <= row.length - 5; k++, at += ACCOUNT_SIZE - 1) {
                has[k] = twoBytes(row, at);
                made[k] = twoBytes(row, at + 2);
                fined |= row[at + 4] == 1 ? 1 << k : 0;
            }
        }

        void plant(Hasher hasher) {
            hasher.clear();
            for (int k = 0; k < ACCOUNTS; k++) {
                encode(k, line, 0);
                hasher.leaf(line, 0, ACCOUNT_SIZE);
            }
        }

        private boolean isLike(Book other) {
            for (int k = 0; k < ACCOUNTS; k++) {
                if (has[k] != other.has[k] || made[k] != other.made[k]) {
                    return false;
                }
            }
            return fined == other.fined;
        }

        /** Makes the root anew if the accounts have changed; latest are those whose root was made last. */
        void refresh(Hasher hasher, Book latest) {
            if (!stale) {
                return;
            }
            // nodes decide the same blocks one soon behind the other: most roots have just been made
            if (latest.stale || !isLike(latest)) {
                latest.mirror(this);
                latest.plant(hasher);
                hasher.climb(-1, latest.root, 0);
                hasher.top(latest.root, 0);
                latest.stale = false;
            }
            System.arraycopy(latest.root, 0, root, 0, ID);
            stale = false;
        }
    }

    /** A node's log. What the node has in memory is, for chain, height and own messages, what the log tells. */
    private static final class Log {
        static final int SECTOR = 512;
        private static final int SECTORS = 284;
        private static final int NOTES_AT = 80;
        private static final int SNAP_ONE = 280;
        private static final int SNAP_TWO = 282;
        private static final int NOTE_HEAD = 8;

        final byte[][] sectors = new byte[SECTORS][];
        private final boolean[] sound = new boolean[SECTORS];
        private final byte[] note = new byte[2 * SECTOR];
        private final int[] blockSizes = new int[LAST_HEIGHT + 1];
        private int length;
        private int snapAt;
        /** Whole notes of this height, but for CHAIN and SNAP. */
        int number;
        int whole;
        int written;
        /** The how many-th note from now on is cut; 0 if none is. */
        int cutIn;

        private void open(int kind, int height, int k) {
            note[0] = (byte) kind;
            putTwo(note, 1, height);
            note[3] = (byte) k;
            length = NOTE_HEAD;
        }

        private void add(byte[] row, int from, int to) {
            if (from >= 0 && to >= from && to <= row.length && length + to - from <= note.length) {
                System.arraycopy(row, from, note, length, to - from);
                length += to - from;
            }
        }

        /** Writes the note that is open; false if it was cut. */
        private boolean write(int at) {
            boolean torn = cutIn == 1;
            if (cutIn > 0) {
                cutIn--;
            }
            putTwo(note, 4, length);
            for (int from = 0, s = at; from < length && s >= 0 && s < SECTORS; from += SECTOR, s++) {
                int size = Math.min(SECTOR, length - from);
                boolean tornHere = torn && length - from <= SECTOR;
                if (sectors[s] == null) {
                    sectors[s] = new byte[SECTOR];
                }
                System.arraycopy(note, from, sectors[s], 0, tornHere ? size / 2 : size);
                sound[s] = !tornHere;
                if (!tornHere) {
                    written++;
                }
            }
            if (!torn) {
                whole++;
            }
            return !torn;
        }

        /** NOTE CHAIN of a block. */
        boolean noteChain(int height, byte[] row, int from, int to) {
            if (height < 1 || height > LAST_HEIGHT) {
                return false;
            }
            open(NOTE_CHAIN, height, 0);
            add(row, from, to);
            if (!write(2 * height - 2)) {
                return false;
            }
            blockSizes[height] = to - from;
            return true;
        }

        /** NOTE SNAP of a SNAPSHOT, never over the newest one that is whole. */
        boolean noteSnap(Message m) {
            int at = snapAt == SNAP_ONE ? SNAP_TWO : SNAP_ONE;
            open(NOTE_SNAP, m.two(1), 0);
            add(m.row, 0, m.length);
            if (!write(at)) {
                return false;
            }
            snapAt = at;
            return true;
        }

        /** A note of this height: one byte and, if there is a message, its bytes from a place on. */
        boolean jot(int kind, int height, int first, Message m, int from) {
            open(kind, height, number);
            note[length] = (byte) first;
            length++;
            if (m != null) {
                add(m.row, from, m.length);
            }
            if (!write(NOTES_AT + 2 * number)) {
                return false;
            }
            number++;
            return true;
        }

        boolean canRead(int s) {
            return s >= 0 && s < SECTORS && sound[s] && sectors[s] != null;
        }

        /** Reads the block of a height out of its CHAIN note; how many bytes it has, or -1. */
        int fetch(int height, byte[] out, int at) {
            if (height < 1 || height > LAST_HEIGHT || blockSizes[height] == 0) {
                return -1;
            }
            int size = blockSizes[height];
            if (at < 0 || size > out.length - at) {
                return -1;
            }
            int first = Math.min(size, SECTOR - NOTE_HEAD);
            int s = 2 * height - 2;
            if (!canRead(s) || size > first && !canRead(s + 1)) {
                return -1;
            }
            System.arraycopy(sectors[s], NOTE_HEAD, out, at, first);
            if (size > first) {
                System.arraycopy(sectors[s + 1], 0, out, at + first, size - first);
            }
            return size;
        }
    }

    /** What a node loses when it falls: what it holds, its proofs, its pool. */
    private static final class Shelf {
        private static final int UNJUDGED = 0;
        private static final int GOOD = 1;
        private static final int BAD = 2;
        private static final int POOL = 80;

        private final Sky sky;
        private final int nodes;
        /** Two halves: heights by their last bit, so that the next height's need not move. */
        private final Message[] proposals = new Message[2 * ROUNDS];
        private final int[] verdicts = new int[2 * ROUNDS];
        private final Message[] votes;
        /** Of each half, a bound above every round of which something is held. */
        private final int[] tops = new int[2];
        final Message[] decided;
        final int[] rulings;
        final Message[] snapshots;
        private final Message[] proofs;
        private final long[] payments = new long[POOL];
        int decisions;
        int pooled;
        int proven;

        Shelf(Sky sky, int nodes) {
            this.sky = sky;
            this.nodes = nodes;
            votes = new Message[2 * ROUNDS * 2 * nodes];
            decided = new Message[nodes];
            rulings = new int[nodes];
            snapshots = new Message[nodes];
            proofs = new Message[nodes];
        }

        private int page(int height, int round) {
            return round < 0 || round >= ROUNDS ? -1 : (height & 1) * ROUNDS + round;
        }

        /** Where the votes of a kind and round start; round must be 0 .. 15. */
        private int ballots(int page, int kind) {
            return (2 * page + (kind == PREVOTE ? 0 : 1)) * nodes;
        }

        int top(int height) {
            return tops[height & 1];
        }

        Message proposal(int height, int round) {
            int page = page(height, round);
            return page < 0 ? null : proposals[page];
        }

        /** What is held of a PROPOSAL's or vote's height, kind, round and signer. */
        Message like(Message m) {
            int page = page(m.two(2), m.at(4));
            if (page < 0 || m.signer() >= nodes) {
                return null;
            }
            return m.kind() == PROPOSAL ? proposals[page] : votes[ballots(page, m.kind()) + m.signer()];
        }

        /** Holds a PROPOSAL or vote, where none like it is held. */
        void hold(Message m) {
            int page = page(m.two(2), m.at(4));
            if (page < 0 || m.signer() >= nodes) {
                return;
            }
            Message[] row = m.kind() == PROPOSAL ? proposals : votes;
            int place = m.kind() == PROPOSAL ? page : ballots(page, m.kind()) + m.signer();
            if (row[place] != null) {
                return;
            }
            row[place] = m;
            m.users++;
            int half = m.two(2) & 1;
            tops[half] = Math.max(tops[half], m.at(4) + 1);
        }

        int verdict(int height, int round) {
            int page = page(height, round);
            return page < 0 ? BAD : verdicts[page];
        }

        void judge(int height, int round, boolean good) {
            int page = page(height, round);
            if (page >= 0) {
                verdicts[page] = good ? GOOD : BAD;
            }
        }

        /** How many votes are for a PROPOSAL's block, or for none. */
        int votesFor(int kind, int height, int round, Message proposal) {
            int page = page(height, round);
            int start = page < 0 ? 0 : ballots(page, kind);
            int found = 0;
            for (int s = 0; s < nodes && page >= 0; s++) {
                Message vote = votes[start + s];
                if (vote != null && (proposal == null ? !vote.named : vote.isFor(proposal))) {
                    found++;
                }
            }
            return found;
        }

        int votesInAll(int kind, int height, int round) {
            int page = page(height, round);
            int start = page < 0 ? 0 : ballots(page, kind);
            int found = 0;
            for (int s = 0; s < nodes && page >= 0; s++) {
                if (votes[start + s] != null) {
                    found++;
                }
            }
            return found;
        }

        /** Of how many signers something is held of a round. */
        int signers(int height, int round) {
            int page = page(height, round);
            if (page < 0) {
                return 0;
            }
            int first = ballots(page, PREVOTE);
            int second = ballots(page, PRECOMMIT);
            int proposer = proposals[page] == null ? -1 : proposals[page].signer();
            int found = 0;
            for (int s = 0; s < nodes; s++) {
                if (votes[first + s] != null || votes[second + s] != null || s == proposer) {
                    found++;
                }
            }
            return found;
        }

        /** The held message of a round at a place in the order of an answer: PROPOSAL, PREVOTEs, PRECOMMITs. */
        Message inOrder(int height, int round, int place) {
            int page = page(height, round);
            if (page < 0 || place < 0 || place > 2 * nodes) {
                return null;
            }
            return place == 0 ? proposals[page] : votes[ballots(page, PREVOTE) + place - 1];
        }

        boolean holdDecided(int sender, Message m) {
            if (sender < 0 || sender >= nodes || decided[sender] != null) {
                return false;
            }
            decided[sender] = m;
            rulings[sender] = UNJUDGED;
            m.users++;
            decisions++;
            return true;
        }

        int decisionsFor(Message m) {
            int found = 0;
            for (int s = 0; s < nodes; s++) {
                if (decided[s] != null && decided[s].isFor(m)) {
                    found++;
                }
            }
            return found;
        }

        boolean holdSnapshot(int sender, Message m) {
            if (sender < 0 || sender >= nodes) {
                return false;
            }
            m.users++;
            sky.drop(snapshots[sender]);
            snapshots[sender] = m;
            return true;
        }

        int snapshotsLike(Message m) {
            int found = 0;
            for (int s = 0; s < nodes; s++) {
                Message other = snapshots[s];
                if (other != null && (other == m || sameBytes(other.row, 0, m.row, 0, SNAPSHOT_SIZE))) {
                    found++;
                }
            }
            return found;
        }

        Message proofOf(int signer) {
            return signer >= 0 && signer < nodes ? proofs[signer] : null;
        }

        boolean addProof(Message evidence) {
            int signer = evidence.signer();
            if (signer >= nodes || proofs[signer] != null) {
                return false;
            }
            proofs[signer] = evidence;
            evidence.users++;
            proven++;
            return true;
        }

        long paymentAt(int i) {
            return i >= 0 && i < pooled ? payments[i] : 0;
        }

        private int find(long code) {
            for (int i = 0; i < pooled; i++) {
                if (payments[i] == code) {
                    return i;
                }
            }
            return -1;
        }

        boolean addPayment(long code) {
            if (pooled >= POOL || find(code) >= 0) {
                return false;
            }
            payments[pooled] = code;
            pooled++;
            return true;
        }

        void removePayment(long code) {
            int i = find(code);
            if (i >= 0) {
                System.arraycopy(payments, i + 1, payments, i, pooled - i - 1);
                pooled--;
            }
        }

        /** Lets go what is held of a height, but for what a signer (or -1: nobody) signed. */
        void clear(int height, int but) {
            int half = height & 1;
            int top = 0;
            for (int round = 0; round < tops[half] && round < ROUNDS; round++) {
                int page = half * ROUNDS + round;
                if (proposals[page] != null && proposals[page].signer() != but) {
                    sky.drop(proposals[page]);
                    proposals[page] = null;
                }
                verdicts[page] = UNJUDGED;
                boolean left = proposals[page] != null;
                int start = ballots(page, PREVOTE);
                for (int i = start; i < start + 2 * nodes; i++) {
                    if (votes[i] != null && votes[i].signer() != but) {
                        sky.drop(votes[i]);
                        votes[i] = null;
                    }
                    left = left || votes[i] != null;
                }
                top = left ? round + 1 : top;
            }
            tops[half] = top;
        }

        void clearDecided() {
            for (int s = 0; s < nodes && decisions > 0; s++) {
                if (decided[s] != null) {
                    sky.drop(decided[s]);
                    decided[s] = null;
                    decisions--;
                }
            }
        }

        void clearRest() {
            for (int s = 0; s < nodes; s++) {
                sky.drop(snapshots[s]);
                sky.drop(proofs[s]);
                snapshots[s] = null;
                proofs[s] = null;
            }
            proven = 0;
            pooled = 0;
        }
    }

    /** An honest node. */
    private static final class Node {
        private static final int HEARTBEAT = 4;

        final World world;
        final int number;
        final Log log = new Log();
        final Shelf shelf;
        final Book book = new Book();
        final byte[] lastId = new byte[ID];
        /** When each timer ends; 0 if it is not set. */
        final int[] timers = new int[3];
        /** DECIDED answers that were made already, by the height's last two bits. */
        private final Message[] answers = new Message[4];
        boolean up = true;
        int height = 1;
        int round;
        int step;
        int lockedRound = -1;
        int validRound = -1;
        Message locked;
        Message valid;
        /** Which of the rules 5, 7, 8 have been in this round: 1, 2, 4. */
        int been;
        int sent;
        /** The round that is to begin ahead of any rule, or -1. */
        int pending = -1;

        Node(World world, int number) {
            this.world = world;
            this.number = number;
            shelf = new Shelf(world.sky, world.total);
        }

        void setTimer(int t) {
            if (t >= 0 && t < timers.length) {
                timers[t] = world.sky.ticks + HEARTBEAT + round;
            }
        }

        int timersSet() {
            return (timers[0] > 0 ? 1 : 0) + (timers[1] > 0 ? 2 : 0) + (timers[2] > 0 ? 4 : 0);
        }

        void fall() {
            up = false;
            pending = -1;
            Arrays.fill(timers, 0);
            // what it sent itself is in the log, and held again when it comes again
            shelf.clear(height, number);
            shelf.clear(height + 1, -1);
            shelf.clearDecided();
            shelf.clearRest();
        }

        void wake() {
            up = true;
            been = 0;
            if (height <= LAST_HEIGHT) {
                setTimer(step);
            }
            Message m = ask();
            world.spread(number, m, number, number);
            world.sky.drop(m);
        }

        Message ask() {
            Message m = world.sky.fresh(3);
            m.row[0] = ASK;
            putTwo(m.row, 1, height);
            return m;
        }

        /** A height begins; its round 0 is to begin, if it has rounds. */
        void enter(int next) {
            shelf.clear(height, -1);
            if (next != height + 1) {
                shelf.clear(height + 1, -1);
            }
            shelf.clearDecided();
            setLocked(null, -1);
            setValid(null, -1);
            Arrays.fill(timers, 0);
            height = next;
            round = 0;
            step = PROPOSE_STEP;
            been = 0;
            sent = 0;
            log.number = 0;
            pending = next <= LAST_HEIGHT ? 0 : -1;
        }

        void setLocked(Message m, int r) {
            if (m != null) {
                m.users++;
            }
            world.sky.drop(locked);
            locked = m;
            lockedRound = r;
        }

        /** Its valid block becomes that of a PROPOSAL. */
        void setValid(Message m, int r) {
            if (m != null) {
                m.users++;
            }
            world.sky.drop(valid);
            valid = m;
            validRound = r;
        }

        /** A vote of its own for a PROPOSAL's block, or for none. */
        Message vote(int kind, Message proposal) {
            Message m = world.sky.fresh(proposal == null ? 6 : 6 + ID);
            m.row[0] = (byte) kind;
            m.row[1] = (byte) number;
            putTwo(m.row, 2, height);
            m.row[4] = (byte) round;
            m.row[5] = (byte) (proposal == null ? 0 : 1);
            m.form = Message.WELL;
            if (proposal != null) {
                System.arraycopy(proposal.id, 0, m.id, 0, 4);
                m.named = true;
                m.writeId(m.row, 6);
            }
            return m;
        }

        /** DECIDED of one of the four heights below its own, or null if it does not have the block. */
        Message decided(int h) {
            if (h < height - 4 || h >= height) {
                return null;
            }
            if (answers[h & 3] == null) {
                int size = log.fetch(h, world.desk, 0);
                if (size < 0) {
                    return null;
                }
                Message m = world.sky.fresh(1 + size);
                m.row[0] = DECIDED;
                System.arraycopy(world.desk, 0, m.row, 1, size);
                answers[h & 3] = m;
            }
            return answers[h & 3];
        }

        /** The answers of heights that are no longer near are let go. */
        void forgetAnswers(int from, int to) {
            for (int h = from; h < to && h < from + 4; h++) {
                world.sky.drop(answers[h & 3]);
                answers[h & 3] = null;
            }
        }

        Message snapshot() {
            Message m = world.sky.fresh(SNAPSHOT_SIZE);
            m.row[0] = SNAPSHOT;
            putTwo(m.row, 1, height);
            System.arraycopy(lastId, 0, m.row, 3, ID);
            for (int k = 0, at = 3 + ID; k < ACCOUNTS; k++, at += ACCOUNT_SIZE - 1) {
                book.encode(k, world.digest, 0);
                System.arraycopy(world.digest, 1, m.row, at, ACCOUNT_SIZE - 1);
            }
            return m;
        }
    }

    /** What comes to a node. */
    private static final class Inbox {
        /** Does what a well formed message asks for; whether it came to be held, so that a rule may hold now. */
        static boolean receive(Node n, int from, Message m) {
            int kind = m.kind();
            if (kind == PAYMENT) {
                takePayment(n, from, m);
                return false;
            }
            if (kind == EVIDENCE) {
                if (n.shelf.addProof(m)) {
                    n.world.spread(n.number, m, from, m.signer());
                }
                return false;
            }
            if (kind == SNAPSHOT) {
                return m.two(1) > n.height && n.shelf.holdSnapshot(from, m);
            }
            boolean signed = kind == PROPOSAL || kind == PREVOTE || kind == PRECOMMIT;
            int height = m.two(signed ? 2 : 1);
            if (height < n.height) {
                if (kind == ASK || signed && m.signer() == from) {
                    answerBelow(n, from, height);
                }
                return false;
            }
            if (kind == ASK) {
                if (height == n.height) {
                    answerAll(n, from);
                }
                return false;
            }
            if (height > n.height) {
                Message ask = n.ask();
                n.world.sky.post(n.number, from, ask);
                n.world.sky.drop(ask);
            }
            if (!signed) {
                return height == n.height && n.shelf.holdDecided(from, m);
            }
            return height <= n.height + 1 && takeSigned(n, from, m);
        }

        private static void takePayment(Node n, int from, Message m) {
            if (n.shelf.addPayment(Book.codeAt(m.row, 1))) {
                n.world.spread(n.number, m, from, from);
            }
        }

        private static void answerBelow(Node n, int to, int height) {
            Sky sky = n.world.sky;
            Message decided = n.decided(height);
            if (decided != null) {
                sky.post(n.number, to, decided);
                return;
            }
            Message snapshot = n.snapshot();
            sky.post(n.number, to, snapshot);
            sky.drop(snapshot);
        }

        private static void answerAll(Node n, int to) {
            int places = 1 + 2 * n.world.total;
            for (int round = 0; round < n.shelf.top(n.height); round++) {
                for (int place = 0; place < places; place++) {
                    Message m = n.shelf.inOrder(n.height, round, place);
                    if (m != null) {
                        n.world.sky.post(n.number, to, m);
                    }
                }
            }
        }

        private static boolean takeSigned(Node n, int from, Message m) {
            if (m.kind() == PROPOSAL && n.world.proposer(m.two(2), m.at(4)) != m.signer()) {
                return false;
            }
            Message held = n.shelf.like(m);
            if (held == null) {
                n.shelf.hold(m);
                n.world.spread(n.number, m, from, m.signer());
                return true;
            }
            if (!held.endsLike(m) && n.shelf.proofOf(m.signer()) == null) {
                accuse(n, held, m);
            }
            return false;
        }

        private static void accuse(Node n, Message one, Message two) {
            Message first = one.endsBelow(two) ? one : two;
            Message second = first == one ? two : one;
            Message m = n.world.sky.fresh(1 + (first.named ? LONG_EVIDENCE : SHORT_EVIDENCE));
            m.row[0] = EVIDENCE;
            m.row[1] = (byte) one.signer();
            m.row[2] = (byte) one.kind();
            putTwo(m.row, 3, one.two(2));
            m.row[5] = (byte) one.at(4);
            m.row[6] = (byte) (first.named ? 1 : 0);
            if (first.named) {
                first.writeId(m.row, 7);
            }
            int at = first.named ? 7 + ID : 7;
            m.row[at] = 1;
            second.writeId(m.row, at + 1);
            n.shelf.addProof(m);
            n.world.spread(n.number, m, n.number, n.number);
            n.world.sky.drop(m);
        }
    }

    /** What a node does by what it holds. */
    private static final class Rules {
        private static final int MOST_TURNS = 1000000;
        private static final int BEEN_LOCK = 1;
        private static final int BEEN_PREVOTES = 2;
        private static final int BEEN_PRECOMMITS = 4;

        /** Lets the rules act as long as one of them holds, the first one each time. */
        static void settle(Node n) {
            for (int turn = 0; turn < MOST_TURNS && n.up && n.height <= LAST_HEIGHT; turn++) {
                n.book.refresh(n.world.hasher, n.world.latest);
                if (n.pending >= 0) {
                    begin(n);
                    continue;
                }
                boolean acted = takes(n) || decides(n) || skips(n) || prevotesNew(n) || prevotesOld(n) || locks(n)
                    || precommitsNone(n) || awaitsPrevotes(n) || awaitsPrecommits(n);
                if (!acted) {
                    return;
                }
            }
            n.book.refresh(n.world.hasher, n.world.latest);
        }

        private static boolean takes(Node n) {
            Shelf shelf = n.shelf;
            for (int s = 0; s < n.world.total; s++) {
                Message m = shelf.snapshots[s];
                if (m != null && m.two(1) > n.height && shelf.snapshotsLike(m) > n.world.faults) {
                    take(n, m);
                    return true;
                }
            }
            return false;
        }

        private static void take(Node n, Message m) {
            if (!n.log.noteSnap(m)) {
                n.fall();
                return;
            }
            System.arraycopy(m.row, 3, n.lastId, 0, ID);
            n.book.load(m.row);
            n.forgetAnswers(0, 4);
            n.enter(m.two(1));
        }

        private static boolean decides(Node n) {
            Shelf shelf = n.shelf;
            for (int s = 0; s < n.world.total && shelf.decisions > n.world.faults; s++) {
                Message m = shelf.decided[s];
                if (m == null || shelf.decisionsFor(m) <= n.world.faults) {
                    continue;
                }
                if (shelf.rulings[s] == Shelf.UNJUDGED) {
                    shelf.rulings[s] = isValid(n, m, DECIDED_BLOCK) ? Shelf.GOOD : Shelf.BAD;
                }
                if (shelf.rulings[s] == Shelf.GOOD) {
                    adopt(n, m, DECIDED_BLOCK);
                    return true;
                }
            }
            for (int round = 0; round < shelf.top(n.height); round++) {
                Message m = shelf.proposal(n.height, round);
                if (m != null && shelf.votesFor(PRECOMMIT, n.height, round, m) >= n.world.quorum
                    && approves(n, round)) {
                    adopt(n, m, PROPOSAL_BLOCK);
                    return true;
                }
            }
            return false;
        }

        private static void adopt(Node n, Message m, int at) {
            if (!n.log.noteChain(n.height, m.row, at, m.length)) {
                n.fall();
                return;
            }
            n.book.play(m.row, at, m.length);
            m.writeId(n.lastId, 0);
            int payments = m.at(at + PAYMENTS_AT);
            for (int p = 1; p <= payments; p++) {
                n.shelf.removePayment(Book.codeAt(m.row, m.length - p * PAYMENT_SIZE));
            }
            n.forgetAnswers(n.height, n.height + 1);
            n.enter(n.height + 1);
        }

        private static boolean skips(Node n) {
            for (int round = n.shelf.top(n.height) - 1; round > n.round; round--) {
                if (n.shelf.signers(n.height, round) > n.world.faults) {
                    n.pending = round;
                    return true;
                }
            }
            return false;
        }

        private static boolean prevotesNew(Node n) {
            Message m = n.step == PROPOSE_STEP ? n.shelf.proposal(n.height, n.round) : null;
            if (m == null || m.at(5) != NO_ROUND) {
                return false;
            }
            boolean yes = approves(n, n.round) && (n.locked == null || n.locked.isFor(m));
            utter(n, n.vote(PREVOTE, yes ? m : null), PREVOTE_STEP);
            return true;
        }

        private static boolean prevotesOld(Node n) {
            Message m = n.step == PROPOSE_STEP ? n.shelf.proposal(n.height, n.round) : null;
            if (m == null || m.at(5) >= n.round) {
                return false;
            }
            int old = m.at(5);
            if (n.shelf.votesFor(PREVOTE, n.height, old, m) < n.world.quorum) {
                return false;
            }
            boolean yes = approves(n, n.round) && (n.lockedRound <= old || n.locked != null && n.locked.isFor(m));
            utter(n, n.vote(PREVOTE, yes ? m : null), PREVOTE_STEP);
            return true;
        }

        private static boolean locks(Node n) {
            if (n.step == PROPOSE_STEP || (n.been & BEEN_LOCK) != 0) {
                return false;
            }
            Message m = n.shelf.proposal(n.height, n.round);
            if (m == null || n.shelf.votesFor(PREVOTE, n.height, n.round, m) < n.world.quorum
                || !approves(n, n.round)) {
                return false;
            }
            n.been |= BEEN_LOCK;
            if (n.step == PREVOTE_STEP) {
                if (n.lockedRound != n.round) {
                    if (!n.log.jot(NOTE_LOCK, n.height, n.round, m, PROPOSAL_BLOCK)) {
                        n.fall();
                        return true;
                    }
                    n.setLocked(m, n.round);
                    n.setValid(m, n.round);
                }
                utter(n, n.vote(PRECOMMIT, m), PRECOMMIT_STEP);
            } else if (n.validRound != n.round) {
                if (!n.log.jot(NOTE_VALID, n.height, n.round, m, PROPOSAL_BLOCK)) {
                    n.fall();
                    return true;
                }
                n.setValid(m, n.round);
            }
            return true;
        }

        private static boolean precommitsNone(Node n) {
            if (n.step != PREVOTE_STEP || n.shelf.votesFor(PREVOTE, n.height, n.round, null) < n.world.quorum) {
                return false;
            }
            utter(n, n.vote(PRECOMMIT, null), PRECOMMIT_STEP);
            return true;
        }

        private static boolean awaitsPrevotes(Node n) {
            if (n.step != PREVOTE_STEP || (n.been & BEEN_PREVOTES) != 0) {
                return false;
            }
            if (n.shelf.votesInAll(PREVOTE, n.height, n.round) < n.world.quorum) {
                return false;
            }
            n.been |= BEEN_PREVOTES;
            n.setTimer(1);
            return true;
        }

        private static boolean awaitsPrecommits(Node n) {
            if ((n.been & BEEN_PRECOMMITS) != 0) {
                return false;
            }
            if (n.shelf.votesInAll(PRECOMMIT, n.height, n.round) < n.world.quorum) {
                return false;
            }
            n.been |= BEEN_PRECOMMITS;
            n.setTimer(2);
            return true;
        }

        /** What a timer does that ends; the rules are not yet asked. */
        static void ring(Node n, int t) {
            if (t == 0 && n.step == PROPOSE_STEP) {
                utter(n, n.vote(PREVOTE, null), PREVOTE_STEP);
            } else if (t == 1 && n.step == PREVOTE_STEP) {
                utter(n, n.vote(PRECOMMIT, null), PRECOMMIT_STEP);
            } else if (t == 2 && n.round < ROUNDS - 1) {
                n.pending = n.round + 1;
            }
        }

        /** Notes and sends to all a message of the node's own, which is given up here. */
        private static void utter(Node n, Message m, int step) {
            if (n.log.jot(NOTE_SENT, n.height, step, m, 0)) {
                n.sent++;
                n.step = step;
                n.shelf.hold(m);
                n.world.spread(n.number, m, n.number, n.number);
            } else {
                n.fall();
            }
            n.world.sky.drop(m);
        }

        private static void begin(Node n) {
            int round = n.pending;
            n.pending = -1;
            if (!n.log.jot(NOTE_ROUND, n.height, round, null, 0)) {
                n.fall();
                return;
            }
            n.round = round;
            n.step = PROPOSE_STEP;
            n.been = 0;
            Arrays.fill(n.timers, 0);
            n.setTimer(0);
            if (n.world.proposer(n.height, round) == n.number) {
                Message old = n.valid;
                utter(n, old != null ? again(n, old) : build(n), PROPOSE_STEP);
            }
        }

        /** A PROPOSAL of the valid block. */
        private static Message again(Node n, Message old) {
            Message m = n.world.sky.fresh(old.length);
            signProposal(n, m.row, n.validRound);
            System.arraycopy(old.row, PROPOSAL_BLOCK, m.row, PROPOSAL_BLOCK, m.length - PROPOSAL_BLOCK);
            System.arraycopy(old.id, 0, m.id, 0, 4);
            m.named = true;
            m.form = Message.WELL;
            return m;
        }

        /** A PROPOSAL of a block of the node's own. */
        private static Message build(Node n) {
            World world = n.world;
            byte[] row = world.desk;
            int block = PROPOSAL_BLOCK;
            signProposal(n, row, NO_ROUND);
            putTwo(row, block, n.height);
            row[block + 2] = (byte) n.number;
            System.arraycopy(n.lastId, 0, row, block + AHEAD_AT, ID);
            System.arraycopy(n.book.root, 0, row, block + ACCOUNTS_ROOT_AT, ID);
            world.draft.mirror(n.book);
            int end = addPayments(n, row, addEvidences(n, row, block + HEAD));
            world.hasher.plant(row, block);
            world.hasher.climb(-1, row, block);
            world.hasher.top(row, block + ROOT_AT);
            Message m = world.sky.fresh(end);
            System.arraycopy(row, 0, m.row, 0, end);
            world.hasher.digest(row, block, block + HEAD, world.digest, 0);
            m.readId(world.digest, 0);
            m.form = Message.WELL;
            return m;
        }

        private static void signProposal(Node n, byte[] row, int validRound) {
            row[0] = PROPOSAL;
            row[1] = (byte) n.number;
            putTwo(row, 2, n.height);
            row[4] = (byte) n.round;
            row[5] = (byte) validRound;
        }

        private static int addEvidences(Node n, byte[] row, int from) {
            int end = from;
            int added = 0;
            for (int s = 0; s < n.world.total && added < MOST_EVIDENCES; s++) {
                Message evidence = n.shelf.proofOf(s);
                if (evidence != null && n.world.draft.punish(s, n.number)) {
                    System.arraycopy(evidence.row, 1, row, end, evidence.length - 1);
                    end += evidence.length - 1;
                    added++;
                }
            }
            row[PROPOSAL_BLOCK + EVIDENCES_AT] = (byte) added;
            return end;
        }

        private static int addPayments(Node n, byte[] row, int from) {
            int end = from;
            int added = 0;
            for (int i = 0; i < n.shelf.pooled && added < MOST_PAYMENTS; i++) {
                long code = n.shelf.paymentAt(i);
                if (n.world.draft.pay(code, n.number)) {
                    Book.putCode(code, row, end);
                    end += PAYMENT_SIZE;
                    added++;
                }
            }
            row[PROPOSAL_BLOCK + PAYMENTS_AT] = (byte) added;
            return end;
        }

        /** Whether the block of the PROPOSAL that is held of a round is valid. */
        private static boolean approves(Node n, int round) {
            if (n.shelf.verdict(n.height, round) == Shelf.UNJUDGED) {
                Message m = n.shelf.proposal(n.height, round);
                n.shelf.judge(n.height, round, m != null && isValid(n, m, PROPOSAL_BLOCK));
            }
            return n.shelf.verdict(n.height, round) == Shelf.GOOD;
        }

        /** Whether a well formed block can stand behind the node's chain. */
        private static boolean isValid(Node n, Message m, int at) {
            if (m.two(at) != n.height || !sameBytes(m.row, at + AHEAD_AT, n.lastId, 0, ID)
                || !sameBytes(m.row, at + ACCOUNTS_ROOT_AT, n.book.root, 0, ID)) {
                return false;
            }
            n.world.draft.mirror(n.book);
            return n.world.draft.play(m.row, at, m.length);
        }
    }

    /** The nodes, and what is between them. */
    private static final class World {
        final int faults;
        final int total;
        final int honest;
        final int quorum;
        final Node[] nodes;
        final Hasher hasher;
        final Sky sky = new Sky();
        final Form form;
        /** Accounts to try parts on. */
        final Book draft = new Book();
        /** Accounts whose root was made last. */
        final Book latest = new Book();
        final byte[] desk = new byte[1024];
        final byte[] digest = new byte[ID];

        private World(int faults, int liars, Hasher hasher, Form form) {
            this.faults = faults;
            this.hasher = hasher;
            this.form = form;
            total = 3 * faults + 1;
            honest = total - liars;
            quorum = 2 * faults + 1;
            nodes = new Node[Math.max(0, honest)];
        }

        /** A world whose honest nodes have begun round 0. */
        static World found(int faults, int liars) {
            Hasher hasher = new Hasher();
            World world = new World(faults, liars, hasher, new Form(hasher, 3 * faults + 1));
            for (int i = 0; i < world.nodes.length; i++) {
                world.nodes[i] = new Node(world, i);
            }
            for (Node n : world.nodes) {
                n.pending = 0;
                Rules.settle(n);
            }
            return world;
        }

        int proposer(int height, int round) {
            return total <= 0 ? 0 : (height + round) % total;
        }

        /** A node sends a message to all but itself and two that may be itself, too. */
        void spread(int from, Message m, int but, int norTo) {
            for (int to = 0; to < total; to++) {
                if (to != from && to != but && to != norTo) {
                    sky.post(from, to, m);
                }
            }
        }

        /** Delivers the message that flies k-th; its first byte, or -1. */
        int land(int k) {
            int from = sky.senderOf(k);
            int to = sky.receiverOf(k);
            Message m = sky.take(k);
            if (m == null) {
                return -1;
            }
            Node n = to >= 0 && to < honest ? nodes[to] : null;
            if (n != null && n.up && form.look(m) && Inbox.receive(n, from, m)) {
                Rules.settle(n);
            }
            int first = m.at(0);
            sky.drop(m);
            return first;
        }

        /** A tick; how many timers ended. */
        int passTime() {
            sky.ticks++;
            int ended = 0;
            for (int i = 0; i < honest; i++) {
                Node n = nodes[i];
                for (int t = 0; t < 3 && n.up; t++) {
                    if (n.timers[t] == sky.ticks) {
                        n.timers[t] = 0;
                        ended++;
                        Rules.ring(n, t);
                        Rules.settle(n);
                    }
                }
            }
            return ended;
        }
    }
}
