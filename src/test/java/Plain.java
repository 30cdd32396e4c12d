import java.security.MessageDigest;
import java.util.ArrayList;
import java.util.Arrays;
import java.util.HashSet;
import java.util.LinkedHashMap;
import java.util.List;
import java.util.Map;
import java.util.Set;
import java.util.TreeMap;

/**
 * The document's words once more, in the plainest form and with the Java library: whole copies of bytes, no
 * caches, and a node that comes again knows what it reads out of its log. Tests hold QuorumLedger against it.
 */
final class Plain {
    /** A node fell in the midst of a note. */
    private static final class Fell extends RuntimeException {
        private static final long serialVersionUID = 1L;
    }

    private static final class Flight {
        int from;
        int to;
        int since;
        byte[] load;
    }

    /** has, made, paid of each account. */
    private static final class Accounts {
        int[] has = new int[16];
        int[] made = new int[16];
        boolean[] paid = new boolean[16];

        Accounts() {
            Arrays.fill(has, 1000);
        }

        Accounts twin() {
            Accounts a = new Accounts();
            a.has = has.clone();
            a.made = made.clone();
            a.paid = paid.clone();
            return a;
        }

        byte[] line(int k) {
            return new byte[] {(byte) k, (byte) (has[k] >> 8), (byte) has[k], (byte) (made[k] >> 8), (byte) made[k],
                (byte) (paid[k] ? 1 : 0)};
        }

        List<byte[]> lines() {
            List<byte[]> all = new ArrayList<>();
            for (int k = 0; k < 16; k++) {
                all.add(line(k));
            }
            return all;
        }

        boolean pay(byte[] p, int maker) {
            int from = p[0];
            int amount = num(p, 2, 2);
            if (num(p, 4, 2) != made[from] || has[from] < amount + p[6]) {
                return false;
            }
            made[from]++;
            has[from] -= amount + p[6];
            has[p[1]] += amount;
            has[maker] += p[6];
            return true;
        }

        boolean punish(int signer, int maker) {
            if (paid[signer]) {
                return false;
            }
            paid[signer] = true;
            int gives = Math.min(100, has[signer]);
            has[signer] -= gives;
            has[maker] += gives;
            return true;
        }
    }

    private static final class Peer {
        int me;
        boolean up = true;
        byte[][] disk = new byte[284][512];
        boolean[] readable = new boolean[284];
        int whole;
        int written;
        int cutIn;
        int height;
        int round;
        int step;
        int lockedRound;
        int validRound;
        byte[] locked;
        byte[] valid;
        Map<Integer, byte[]> chain;
        byte[] lastId;
        Accounts accounts;
        int number;
        List<byte[]> mine;
        int snapAt;
        List<byte[]> pool;
        int[] timers;
        TreeMap<Integer, byte[]> proofs;
        Map<String, byte[]> held;
        TreeMap<Integer, byte[]> decided;
        TreeMap<Integer, byte[]> shots;
        Set<Integer> been;
    }

    private final int F;
    private final int N;
    private final int honest;
    private final List<Flight> sky = new ArrayList<>();
    private final Peer[] peers;
    private int ticks;
    private int sent;
    private int lost;
    private byte[] tape = new byte[0];

    Plain(int f, int liars) {
        F = f >= 1 && f <= 4 ? f : 1;
        N = 3 * F + 1;
        honest = N - (liars >= 0 && liars <= F ? liars : 0);
        peers = new Peer[honest];
        for (int i = 0; i < honest; i++) {
            peers[i] = new Peer();
            peers[i].me = i;
            readLog(peers[i]);
        }
        for (Peer p : peers) {
            begin(p, 0);
            rules(p);
        }
    }

    // ---- bytes

    static int num(byte[] b, int at, int size) {
        int v = 0;
        for (int i = 0; i < size; i++) {
            v = v << 8 | b[at + i] & 255;
        }
        return v;
    }

    static byte[] join(byte[]... rows) {
        int size = 0;
        for (byte[] r : rows) {
            size += r.length;
        }
        byte[] all = new byte[size];
        int at = 0;
        for (byte[] r : rows) {
            System.arraycopy(r, 0, all, at, r.length);
            at += r.length;
        }
        return all;
    }

    static byte[] part(byte[] b, int from, int to) {
        return Arrays.copyOfRange(b, from, to);
    }

    static byte[] row(int... values) {
        byte[] b = new byte[values.length];
        for (int i = 0; i < b.length; i++) {
            b[i] = (byte) values[i];
        }
        return b;
    }

    static byte[] sha(byte[]... rows) {
        try {
            return MessageDigest.getInstance("SHA-256").digest(join(rows));
        } catch (java.security.NoSuchAlgorithmException e) {
            throw new IllegalStateException(e);
        }
    }

    static byte[] rootOf(List<byte[]> parts) {
        if (parts.isEmpty()) {
            return new byte[32];
        }
        List<byte[]> level = new ArrayList<>();
        for (byte[] p : parts) {
            level.add(sha(row(0), p));
        }
        while (level.size() > 1) {
            level = above(level);
        }
        return level.get(0);
    }

    private static List<byte[]> above(List<byte[]> level) {
        List<byte[]> next = new ArrayList<>();
        for (int i = 0; i < level.size(); i += 2) {
            next.add(i + 1 < level.size() ? sha(row(1), level.get(i), level.get(i + 1)) : level.get(i));
        }
        return next;
    }

    static byte[] pathOf(List<byte[]> parts, int k) {
        List<byte[]> level = new ArrayList<>();
        for (byte[] p : parts) {
            level.add(sha(row(0), p));
        }
        byte[] path = new byte[0];
        for (int at = k; level.size() > 1; at /= 2) {
            if (at % 2 == 1) {
                path = join(path, row(1), level.get(at - 1));
            } else if (at == level.size() - 1) {
                path = join(path, row(0));
            } else {
                path = join(path, row(2), level.get(at + 1));
            }
            level = above(level);
        }
        return path;
    }

    static long eight(byte[] b, int i) {
        long v = 0;
        for (long j = i; j < i + 8L; j++) {
            v = v << 8 | (j < b.length ? b[(int) j] & 255 : 0);
        }
        return v;
    }

    // ---- form

    /** The parts of what stands behind a head, evidences first; null if they do not stand whole. */
    static List<byte[]> parts(byte[] block) {
        if (block.length < 101) {
            return null;
        }
        List<byte[]> parts = new ArrayList<>();
        int at = 101;
        for (int e = 0; e < (block[100] & 255); e++) {
            int size = block.length > at + 5 && block[at + 5] == 0 ? 39 : 71;
            if (at + size > block.length) {
                return null;
            }
            parts.add(part(block, at, at + size));
            at += size;
        }
        for (int p = 0; p < (block[99] & 255); p++) {
            if (at + 7 > block.length) {
                return null;
            }
            parts.add(part(block, at, at + 7));
            at += 7;
        }
        return at == block.length ? parts : null;
    }

    private static boolean paymentOk(byte[] p) {
        return p.length == 7 && (p[0] & 255) < 16 && (p[1] & 255) < 16 && p[0] != p[1] && num(p, 2, 2) >= 1
            && num(p, 2, 2) <= 1000 && (p[6] & 255) >= 1 && (p[6] & 255) <= 9;
    }

    private boolean evidenceOk(byte[] e) {
        if (e.length < 39 || !signOk(join(row(0, e[0]), part(e, 2, 5))) || e[1] < 1 || e[1] > 3) {
            return false;
        }
        if (e[5] == 0) {
            return e.length == 39 && e[1] != 1 && e[6] == 1;
        }
        return e.length == 71 && e[5] == 1 && e[38] == 1
            && Arrays.compareUnsigned(part(e, 6, 38), part(e, 39, 71)) < 0;
    }

    private static boolean heightOk(byte[] b, int at) {
        return num(b, at, 2) >= 1 && num(b, at, 2) <= 41;
    }

    private boolean signOk(byte[] m) {
        return m.length >= 5 && (m[1] & 255) < N && heightOk(m, 2) && (m[4] & 255) < 16;
    }

    private boolean blockOk(byte[] b) {
        if (b.length < 101 || !heightOk(b, 0) || (b[2] & 255) >= N || (b[99] & 255) > 64 || (b[100] & 255) > 2) {
            return false;
        }
        List<byte[]> parts = parts(b);
        if (parts == null) {
            return false;
        }
        for (int i = 0; i < parts.size(); i++) {
            if (i < b[100] ? !evidenceOk(parts.get(i)) : !paymentOk(parts.get(i))) {
                return false;
            }
        }
        return Arrays.equals(rootOf(parts), part(b, 67, 99));
    }

    private boolean wellFormed(byte[] m) {
        switch (m[0]) {
            case 0:
                return paymentOk(part(m, 1, m.length));
            case 1:
                return m.length >= 107 && signOk(m) && ((m[5] & 255) < 16 || m[5] == -1)
                    && blockOk(part(m, 6, m.length)) && num(m, 2, 2) == num(m, 6, 2);
            case 2:
            case 3:
                return signOk(m) && (m.length == 6 && m[5] == 0 || m.length == 38 && m[5] == 1);
            case 4:
                return blockOk(part(m, 1, m.length));
            case 5:
                return m.length == 3 && heightOk(m, 1);
            case 6:
                return evidenceOk(part(m, 1, m.length));
            case 7:
                return snapshotOk(m);
            default:
                return false;
        }
    }

    private static boolean snapshotOk(byte[] m) {
        if (m.length != 115 || num(m, 1, 2) < 2 || num(m, 1, 2) > 41) {
            return false;
        }
        for (int k = 0; k < 16; k++) {
            if (num(m, 35 + 5 * k, 2) > 16000 || (m[39 + 5 * k] & 255) > 1) {
                return false;
            }
        }
        return true;
    }

    private static byte[] idOf(byte[] block) {
        return sha(part(block, 0, 101));
    }

    /** END of a vote, or of a PROPOSAL: 1 and its block's id. */
    private static byte[] endOf(byte[] m) {
        return m[0] == 1 ? join(row(1), idOf(part(m, 6, m.length))) : part(m, 5, m.length);
    }

    /** The accounts behind a block that is valid behind a node's chain; else null. */
    private Accounts behind(Peer p, byte[] block) {
        if (!blockOk(block) || num(block, 0, 2) != p.height || !Arrays.equals(part(block, 3, 35), p.lastId)
            || !Arrays.equals(part(block, 35, 67), rootOf(p.accounts.lines()))) {
            return null;
        }
        Accounts a = p.accounts.twin();
        List<byte[]> parts = parts(block);
        for (int i = 0; i < parts.size(); i++) {
            byte[] part = parts.get(i);
            if (i < block[100] ? !a.punish(part[0], block[2]) : !a.pay(part, block[2])) {
                return null;
            }
        }
        return a;
    }

    // ---- flying

    private void launch(int from, int to, byte[] load) {
        Flight f = new Flight();
        f.from = from;
        f.to = to;
        f.since = ticks;
        f.load = load;
        sky.add(f);
    }

    private void send(int from, int to, byte[] load) {
        sent++;
        if (sky.size() < 1000) {
            launch(from, to, load);
        } else {
            lost++;
        }
    }

    private void sendAll(int from, byte[] load) {
        for (int to = 0; to < N; to++) {
            if (to != from) {
                send(from, to, load);
            }
        }
    }

    private void sendOn(int me, int from, byte[] load) {
        int signer = load[0] == 1 || load[0] == 2 || load[0] == 3 || load[0] == 6 ? load[1] : -1;
        for (int to = 0; to < N; to++) {
            if (to != me && to != from && to != signer) {
                send(me, to, load);
            }
        }
    }

    private int proposer(int height, int round) {
        return (height + round) % N;
    }

    // ---- the log

    private void note(Peer p, int kind, int height, int number, int sector, byte[] tells) {
        int size = 8 + tells.length;
        byte[] n = join(row(kind, height >> 8, height, number, size >> 8, size, 0, 0), tells);
        boolean cut = p.cutIn == 1;
        if (p.cutIn > 0) {
            p.cutIn--;
        }
        int last = (size - 1) / 512;
        for (int s = 0; s <= last; s++) {
            byte[] piece = part(n, 512 * s, Math.min(size, 512 * s + 512));
            boolean torn = cut && s == last;
            System.arraycopy(piece, 0, p.disk[sector + s], 0, torn ? piece.length / 2 : piece.length);
            p.readable[sector + s] = !torn;
            p.written += torn ? 0 : 1;
        }
        if (cut) {
            throw new Fell();
        }
        p.whole++;
    }

    private void jot(Peer p, int kind, byte[] tells) {
        note(p, kind, p.height, p.number, 80 + 2 * p.number, tells);
        p.number++;
    }

    /** What a whole note at a sector tells, with its head; null if there is none. */
    private byte[] read(Peer p, int sector) {
        if (sector + 1 >= 284 || !p.readable[sector] || p.disk[sector][0] == 0) {
            return null;
        }
        int size = num(p.disk[sector], 4, 2);
        if (size > 512 && !p.readable[sector + 1]) {
            return null;
        }
        return part(join(p.disk[sector], p.disk[sector + 1]), 0, size);
    }

    /** Memory becomes what the log tells; all else is lost. */
    private void readLog(Peer p) {
        p.height = 1;
        p.lastId = new byte[32];
        p.accounts = new Accounts();
        p.chain = new TreeMap<>();
        p.snapAt = 0;
        byte[] newest = null;
        for (int s = 280; s <= 282; s += 2) {
            byte[] n = read(p, s);
            if (n != null && (newest == null || num(n, 1, 2) > num(newest, 1, 2))) {
                newest = n;
                p.snapAt = s;
            }
        }
        if (newest != null) {
            adoptSnapshot(p, part(newest, 8, newest.length));
        }
        for (int h = 1; h <= 40; h++) {
            byte[] n = read(p, 2 * h - 2);
            if (n == null || n[0] != 1 || num(n, 1, 2) != h) {
                continue;
            }
            byte[] block = part(n, 8, n.length);
            if (h == p.height) {
                p.accounts = behind(p, block);
                p.lastId = idOf(block);
                p.height++;
            } else if (h > p.height) {
                throw new IllegalStateException("a CHAIN note stands apart");
            }
            p.chain.put(h, block);
        }
        fresh(p);
        p.pool = new ArrayList<>();
        p.proofs = new TreeMap<>();
        p.held = new LinkedHashMap<>();
        p.shots = new TreeMap<>();
        readNotes(p);
        for (byte[] m : p.mine) {
            p.held.put(key(m), m);
        }
    }

    private void readNotes(Peer p) {
        for (int k = 0; k < 100; k++) {
            byte[] n = read(p, 80 + 2 * k);
            if (n == null || num(n, 1, 2) != p.height || n[3] != k || n[0] < 2 || n[0] > 5) {
                return;
            }
            p.number = k + 1;
            if (n[0] == 2) {
                p.round = n[8];
                p.step = 0;
            } else if (n[0] == 3) {
                p.step = n[8];
                p.mine.add(part(n, 9, n.length));
            } else {
                p.valid = part(n, 9, n.length);
                p.validRound = n[8];
                if (n[0] == 4) {
                    p.locked = p.valid;
                    p.lockedRound = n[8];
                }
            }
        }
    }

    private void adoptSnapshot(Peer p, byte[] m) {
        p.height = num(m, 1, 2);
        p.lastId = part(m, 3, 35);
        p.accounts = new Accounts();
        for (int k = 0; k < 16; k++) {
            p.accounts.has[k] = num(m, 35 + 5 * k, 2);
            p.accounts.made[k] = num(m, 37 + 5 * k, 2);
            p.accounts.paid[k] = m[39 + 5 * k] == 1;
        }
    }

    /** A height at its start. */
    private void fresh(Peer p) {
        p.round = 0;
        p.step = 0;
        p.locked = null;
        p.valid = null;
        p.lockedRound = -1;
        p.validRound = -1;
        p.number = 0;
        p.mine = new ArrayList<>();
        p.timers = new int[] {-1, -1, -1};
        p.been = new HashSet<>();
        p.decided = new TreeMap<>();
    }

    private void fall(Peer p) {
        p.up = false;
        readLog(p);
    }

    // ---- what comes

    private static String key(byte[] m) {
        return m[0] + "/" + num(m, 2, 2) + "/" + m[4] + "/" + m[1];
    }

    private byte[] held(Peer p, int kind, int round, int signer) {
        return p.held.get(kind + "/" + p.height + "/" + round + "/" + signer);
    }

    private void receive(Peer p, int from, byte[] m) {
        if (!wellFormed(m)) {
            return;
        }
        if (m[0] == 0) {
            byte[] payment = part(m, 1, 8);
            if (p.pool.size() < 80 && !has(p.pool, payment)) {
                p.pool.add(payment);
                sendOn(p.me, from, m);
            }
        } else if (m[0] == 6) {
            if (!p.proofs.containsKey((int) m[1])) {
                p.proofs.put((int) m[1], m);
                sendOn(p.me, from, m);
            }
        } else if (m[0] == 7) {
            if (num(m, 1, 2) > p.height) {
                p.shots.put(from, m);
            }
        } else {
            receiveOfHeight(p, from, m);
        }
    }

    private static boolean has(List<byte[]> rows, byte[] row) {
        for (byte[] r : rows) {
            if (Arrays.equals(r, row)) {
                return true;
            }
        }
        return false;
    }

    private void receiveOfHeight(Peer p, int from, byte[] m) {
        boolean signed = m[0] <= 3;
        int height = num(m, signed ? 2 : 1, 2);
        if (height < p.height) {
            if (m[0] == 5 || signed && m[1] == from) {
                boolean near = height >= p.height - 4 && p.chain.containsKey(height);
                send(p.me, from, near ? join(row(4), p.chain.get(height)) : snapshot(p));
            }
            return;
        }
        if (m[0] == 5) {
            if (height == p.height) {
                tellHeld(p, from);
            }
            return;
        }
        if (height > p.height) {
            send(p.me, from, row(5, p.height >> 8, p.height));
        }
        if (m[0] == 4) {
            if (height == p.height && !p.decided.containsKey(from)) {
                p.decided.put(from, m);
            }
        } else if (height <= p.height + 1 && (m[0] != 1 || m[1] == proposer(height, m[4]))) {
            receiveSigned(p, from, m);
        }
    }

    private void receiveSigned(Peer p, int from, byte[] m) {
        byte[] other = p.held.get(key(m));
        if (other == null) {
            p.held.put(key(m), m);
            sendOn(p.me, from, m);
            return;
        }
        byte[] a = endOf(other);
        byte[] b = endOf(m);
        if (!Arrays.equals(a, b) && !p.proofs.containsKey((int) m[1])) {
            boolean ordered = Arrays.compareUnsigned(a, b) < 0;
            byte[] e = join(row(6, m[1], m[0], m[2], m[3], m[4]), ordered ? a : b, ordered ? b : a);
            p.proofs.put((int) m[1], e);
            sendAll(p.me, e);
        }
    }

    private void tellHeld(Peer p, int to) {
        for (int round = 0; round < 16; round++) {
            for (int kind = 1; kind <= 3; kind++) {
                for (int s = 0; s < N; s++) {
                    byte[] m = held(p, kind, round, s);
                    if (m != null) {
                        send(p.me, to, m);
                    }
                }
            }
        }
    }

    private byte[] snapshot(Peer p) {
        byte[] m = join(row(7, p.height >> 8, p.height), p.lastId);
        for (byte[] line : p.accounts.lines()) {
            m = join(m, part(line, 1, 6));
        }
        return m;
    }

    // ---- rules

    private void rules(Peer p) {
        boolean acted = true;
        while (acted && p.up && p.height <= 40) {
            acted = take(p) || decide(p) || skip(p) || prevote(p) || lock(p) || precommitNone(p) || setTimers(p);
        }
    }

    private boolean take(Peer p) {
        for (byte[] m : p.shots.values()) {
            int same = 0;
            for (byte[] other : p.shots.values()) {
                same += Arrays.equals(m, other) ? 1 : 0;
            }
            if (same >= F + 1 && num(m, 1, 2) > p.height) {
                int at = p.snapAt == 280 ? 282 : 280;
                note(p, 6, num(m, 1, 2), 0, at, m);
                p.snapAt = at;
                int before = p.height;
                adoptSnapshot(p, m);
                enter(p, before);
                return true;
            }
        }
        return false;
    }

    /** What is held of other heights than this one and the next one goes; then round 0 begins. */
    private void enter(Peer p, int before) {
        Map<String, byte[]> stays = new LinkedHashMap<>();
        for (Map.Entry<String, byte[]> e : p.held.entrySet()) {
            if (num(e.getValue(), 2, 2) == p.height && p.height == before + 1) {
                stays.put(e.getKey(), e.getValue());
            }
        }
        p.held = stays;
        fresh(p);
        if (p.height <= 40) {
            begin(p, 0);
        }
    }

    private boolean decide(Peer p) {
        for (byte[] m : p.decided.values()) {
            byte[] block = part(m, 1, m.length);
            int same = 0;
            for (byte[] other : p.decided.values()) {
                same += Arrays.equals(idOf(block), idOf(part(other, 1, other.length))) ? 1 : 0;
            }
            if (same >= F + 1 && behind(p, block) != null) {
                append(p, block);
                return true;
            }
        }
        for (int round = 0; round < 16; round++) {
            byte[] m = held(p, 1, round, proposer(p.height, round));
            if (m != null && votes(p, 3, round, endOf(m)) >= 2 * F + 1 && behind(p, part(m, 6, m.length)) != null) {
                append(p, part(m, 6, m.length));
                return true;
            }
        }
        return false;
    }

    private void append(Peer p, byte[] block) {
        note(p, 1, p.height, 0, 2 * p.height - 2, block);
        p.accounts = behind(p, block);
        p.chain.put(p.height, block);
        p.lastId = idOf(block);
        List<byte[]> parts = parts(block);
        List<byte[]> done = parts.subList(block[100], parts.size());
        p.pool.removeIf(payment -> has(done, payment));
        p.height++;
        enter(p, p.height - 1);
    }

    /** How many votes of a kind and round are for an END (null: whatever for). */
    private int votes(Peer p, int kind, int round, byte[] end) {
        int found = 0;
        for (int s = 0; s < N; s++) {
            byte[] m = held(p, kind, round, s);
            if (m != null && (end == null || Arrays.equals(end, endOf(m)))) {
                found++;
            }
        }
        return found;
    }

    private boolean skip(Peer p) {
        for (int round = 15; round > p.round; round--) {
            Set<Integer> signers = new HashSet<>();
            for (int kind = 1; kind <= 3; kind++) {
                for (int s = 0; s < N; s++) {
                    if (held(p, kind, round, s) != null) {
                        signers.add(s);
                    }
                }
            }
            if (signers.size() >= F + 1) {
                begin(p, round);
                return true;
            }
        }
        return false;
    }

    private boolean prevote(Peer p) {
        byte[] m = held(p, 1, p.round, proposer(p.height, p.round));
        if (p.step != 0 || m == null) {
            return false;
        }
        byte[] block = part(m, 6, m.length);
        boolean good = behind(p, block) != null;
        boolean mine = p.locked != null && Arrays.equals(idOf(p.locked), idOf(block));
        int valid = m[5] & 255;
        if (valid == 255) {
            vote(p, 2, good && (p.locked == null || mine) ? endOf(m) : row(0), 1);
            return true;
        }
        if (valid < p.round && votes(p, 2, valid, endOf(m)) >= 2 * F + 1) {
            vote(p, 2, good && (p.lockedRound <= valid || mine) ? endOf(m) : row(0), 1);
            return true;
        }
        return false;
    }

    private boolean lock(Peer p) {
        byte[] m = held(p, 1, p.round, proposer(p.height, p.round));
        if (p.step == 0 || p.been.contains(5) || m == null || votes(p, 2, p.round, endOf(m)) < 2 * F + 1) {
            return false;
        }
        byte[] block = part(m, 6, m.length);
        if (behind(p, block) == null) {
            return false;
        }
        p.been.add(5);
        if (p.step == 1) {
            if (p.lockedRound != p.round) {
                jot(p, 4, join(row(p.round), block));
                p.locked = block;
                p.lockedRound = p.round;
                p.valid = block;
                p.validRound = p.round;
            }
            vote(p, 3, endOf(m), 2);
        } else if (p.validRound != p.round) {
            jot(p, 5, join(row(p.round), block));
            p.valid = block;
            p.validRound = p.round;
        }
        return true;
    }

    private boolean precommitNone(Peer p) {
        if (p.step == 1 && votes(p, 2, p.round, row(0)) >= 2 * F + 1) {
            vote(p, 3, row(0), 2);
            return true;
        }
        return false;
    }

    private boolean setTimers(Peer p) {
        if (p.step == 1 && !p.been.contains(7) && votes(p, 2, p.round, null) >= 2 * F + 1) {
            p.been.add(7);
            p.timers[1] = ticks + 4 + p.round;
            return true;
        }
        if (!p.been.contains(8) && votes(p, 3, p.round, null) >= 2 * F + 1) {
            p.been.add(8);
            p.timers[2] = ticks + 4 + p.round;
            return true;
        }
        return false;
    }

    private void vote(Peer p, int kind, byte[] end, int step) {
        say(p, join(row(kind, p.me, p.height >> 8, p.height, p.round), end), step);
    }

    private void say(Peer p, byte[] m, int step) {
        jot(p, 3, join(row(step), m));
        p.step = step;
        p.mine.add(m);
        p.held.put(key(m), m);
        sendAll(p.me, m);
    }

    private void begin(Peer p, int round) {
        jot(p, 2, row(round));
        p.round = round;
        p.step = 0;
        p.been.clear();
        p.timers = new int[] {ticks + 4 + round, -1, -1};
        if (proposer(p.height, round) == p.me) {
            byte[] block = p.valid != null ? p.valid : build(p);
            int validRound = p.valid != null ? p.validRound : 255;
            say(p, join(row(1, p.me, p.height >> 8, p.height, round, validRound), block), 0);
        }
    }

    private byte[] build(Peer p) {
        Accounts a = p.accounts.twin();
        List<byte[]> parts = new ArrayList<>();
        for (Map.Entry<Integer, byte[]> e : p.proofs.entrySet()) {
            if (parts.size() < 2 && a.punish(e.getKey(), p.me)) {
                parts.add(part(e.getValue(), 1, e.getValue().length));
            }
        }
        int evidences = parts.size();
        for (byte[] payment : p.pool) {
            if (parts.size() - evidences < 64 && a.pay(payment, p.me)) {
                parts.add(payment);
            }
        }
        byte[] block = join(row(p.height >> 8, p.height, p.me), p.lastId, rootOf(p.accounts.lines()), rootOf(parts),
            row(parts.size() - evidences, evidences));
        for (byte[] one : parts) {
            block = join(block, one);
        }
        return block;
    }

    // ---- the face

    boolean feed(int a, int b, int c, int d, int e) {
        if (tape.length + 20 > 1000) {
            return false;
        }
        for (int v : new int[] {a, b, c, d, e}) {
            tape = join(tape, row(v >> 24, v >> 16, v >> 8, v));
        }
        return true;
    }

    private boolean mayLie(int liar, int to) {
        return liar >= honest && liar < N && to >= 0 && to < N && to != liar && sky.size() < 1000;
    }

    boolean lie(int liar, int to, int n) {
        if (!mayLie(liar, to) || n < 1 || n > tape.length) {
            return false;
        }
        byte[] m = part(tape, 0, n);
        if (wellFormed(m)) {
            if ((m[0] == 1 || m[0] == 2 || m[0] == 3 || m[0] == 6) && m[1] < honest) {
                return false;
            }
            if (m[0] == 1 || m[0] == 4) {
                byte[] block = part(m, m[0] == 1 ? 6 : 1, n);
                for (byte[] e : parts(block).subList(0, block[100])) {
                    if (e[0] < honest) {
                        return false;
                    }
                }
            }
        }
        send(liar, to, m);
        tape = new byte[0];
        return true;
    }

    boolean pass(int liar, int to, int k) {
        if (!mayLie(liar, to) || k < 0 || k >= sky.size()) {
            return false;
        }
        send(liar, to, sky.get(k).load);
        return true;
    }

    int seal(int at, int n, int node) {
        if (at < 0 || n > tape.length || (long) n - at < 101) {
            return -1;
        }
        byte[] block = part(tape, at, n);
        List<byte[]> parts = new ArrayList<>();
        int place = 101;
        boolean whole = (block[100] & 255) <= 2;
        for (int e = 0; whole && e < block[100]; e++) {
            int first = place + 5 < block.length ? block[place + 5] : -1;
            int size = first == 0 ? 39 : 71;
            whole = (first == 0 || first == 1) && place + size <= block.length && block[place + size - 33] == 1;
            if (whole) {
                parts.add(part(block, place, place + size));
                place += size;
            }
        }
        if (!whole) {
            block[100] = 0;
            parts.clear();
            place = 101;
        }
        int payments = 0;
        for (; payments < 64 && place + 7 <= block.length; payments++, place += 7) {
            parts.add(part(block, place, place + 7));
        }
        block[99] = (byte) payments;
        System.arraycopy(rootOf(parts), 0, block, 67, 32);
        if (node >= 0 && node < honest) {
            System.arraycopy(peers[node].lastId, 0, block, 3, 32);
            System.arraycopy(rootOf(peers[node].accounts.lines()), 0, block, 35, 32);
        }
        System.arraycopy(block, 0, tape, at, block.length);
        return payments;
    }

    boolean stamp(int at, int k, int from) {
        if (at < 0 || at + 32L > tape.length) {
            return false;
        }
        byte[] id;
        if (k == -1) {
            if (from < 0 || from + 101L > tape.length) {
                return false;
            }
            id = sha(part(tape, from, from + 101));
        } else {
            if (k < 0 || k >= sky.size()) {
                return false;
            }
            byte[] m = sky.get(k).load;
            int head = m[0] == 1 ? 6 : m[0] == 4 ? 1 : -1;
            if (head < 0 || m.length < head + 101) {
                return false;
            }
            id = sha(part(m, head, head + 101));
        }
        System.arraycopy(id, 0, tape, at, 32);
        return true;
    }

    long hash(int n, int k) {
        return n < 0 || n > tape.length || k < 0 || k > 3 ? 0 : eight(sha(part(tape, 0, n)), 8 * k);
    }

    boolean submit(int node, int from, int to, int amount, int nonce, int tip) {
        if (node < 0 || node >= honest || !peers[node].up || nonce < 0 || nonce > 65535 || amount < 0 || amount > 65535
            || from < 0 || from > 255 || to < 0 || to > 255 || tip < 0 || tip > 255) {
            return false;
        }
        byte[] payment = row(from, to, amount >> 8, amount, nonce >> 8, nonce, tip);
        Peer p = peers[node];
        if (!paymentOk(payment) || has(p.pool, payment) || p.pool.size() >= 80) {
            return false;
        }
        p.pool.add(payment);
        sendAll(node, join(row(0), payment));
        return true;
    }

    int deliver(int k) {
        if (k < 0 || k >= sky.size()) {
            return -1;
        }
        Flight f = sky.remove(k);
        if (f.to < honest && peers[f.to].up) {
            Peer p = peers[f.to];
            try {
                receive(p, f.from, f.load);
                rules(p);
            } catch (Fell e) {
                fall(p);
            }
        }
        return f.load[0] & 255;
    }

    int calm(int n, int d) {
        if (n < 1 || n > 64 || d < 0 || d > 9) {
            return -1;
        }
        int done = 0;
        for (int i = 0; i < n; i++) {
            while (done < 5000) {
                int k = 0;
                while (k < sky.size() && sky.get(k).since > ticks - d) {
                    k++;
                }
                if (k == sky.size()) {
                    break;
                }
                deliver(k);
                done++;
            }
            tick();
        }
        return done;
    }

    boolean copy(int k) {
        if (k < 0 || k >= sky.size() || sky.size() >= 1000) {
            return false;
        }
        launch(sky.get(k).from, sky.get(k).to, sky.get(k).load);
        return true;
    }

    int flying(int k, int what) {
        if (k < 0 || k >= sky.size()) {
            return -1;
        }
        Flight f = sky.get(k);
        return what == 0 ? f.from : what == 1 ? f.to : what == 2 ? f.load.length : -1;
    }

    long bytes(int k, int i) {
        return k < 0 || k >= sky.size() || i < 0 ? -1 : eight(sky.get(k).load, i);
    }

    int tick() {
        ticks++;
        int ended = 0;
        for (Peer p : peers) {
            try {
                for (int t = 0; t < 3 && p.up; t++) {
                    if (p.timers[t] == ticks) {
                        p.timers[t] = -1;
                        ended++;
                        ring(p, t);
                        rules(p);
                    }
                }
            } catch (Fell e) {
                fall(p);
            }
        }
        return ended;
    }

    private void ring(Peer p, int t) {
        if (t == 0 && p.step == 0) {
            vote(p, 2, row(0), 1);
        } else if (t == 1 && p.step == 1) {
            vote(p, 3, row(0), 2);
        } else if (t == 2 && p.round < 15) {
            begin(p, p.round + 1);
        }
    }

    private Peer peer(int node) {
        return node >= 0 && node < honest ? peers[node] : null;
    }

    boolean crash(int node) {
        Peer p = peer(node);
        if (p == null || !p.up) {
            return false;
        }
        fall(p);
        return true;
    }

    boolean cut(int node, int k) {
        Peer p = peer(node);
        if (p == null || k < 0 || k > 1000) {
            return false;
        }
        p.cutIn = k;
        return true;
    }

    boolean restart(int node) {
        Peer p = peer(node);
        if (p == null || p.up) {
            return false;
        }
        readLog(p);
        p.up = true;
        if (p.height <= 40) {
            p.timers[p.step] = ticks + 4 + p.round;
        }
        sendAll(p.me, row(5, p.height >> 8, p.height));
        try {
            rules(p);
        } catch (Fell e) {
            fall(p);
        }
        return true;
    }

    int state(int node, int what) {
        Peer p = peer(node);
        if (p == null || what < 0 || what > 11) {
            return -1;
        }
        int timers = (p.timers[0] < 0 ? 0 : 1) + (p.timers[1] < 0 ? 0 : 2) + (p.timers[2] < 0 ? 0 : 4);
        int[] all = {p.height, p.round, p.step, p.lockedRound, p.validRound, p.up ? 1 : 0, p.pool.size(), timers,
            p.mine.size(), p.whole, p.written, p.proofs.size()};
        return all[what];
    }

    long block(int node, int height, int i) {
        Peer p = peer(node);
        if (p == null || i < 0) {
            return -1;
        }
        byte[] b = height == 0 ? p.locked : height == -1 ? p.valid : p.chain.get(height);
        return b == null ? -1 : eight(b, i);
    }

    int paid(int node, int signer) {
        Peer p = peer(node);
        if (p == null || signer < 0 || signer >= N) {
            return -1;
        }
        return (p.accounts.paid[signer] ? 1 : 0) + (p.proofs.containsKey(signer) ? 2 : 0);
    }

    long path(int node, int height, int k, int i) {
        Peer p = peer(node);
        if (p == null || i < 0 || !p.chain.containsKey(height)) {
            return -1;
        }
        List<byte[]> parts = parts(p.chain.get(height));
        return k < 0 || k >= parts.size() ? -1 : eight(pathOf(parts, k), i);
    }

    long account(int node, int k, int i) {
        Peer p = peer(node);
        if (p == null || i < 0 || k < 0 || k > 15) {
            return -1;
        }
        return eight(join(p.accounts.line(k), pathOf(p.accounts.lines(), k)), i);
    }

    long sector(int node, int s, int i) {
        Peer p = peer(node);
        return p == null || i < 0 || s < 0 || s > 283 || !p.readable[s] ? -1 : eight(p.disk[s], i);
    }

    boolean proof(int what, int at, int n) {
        if (what < 0 || what > 1 || at < 102 || n < at || n > tape.length) {
            return false;
        }
        byte[] it = sha(row(0), part(tape, 101, at));
        int place = at;
        while (place < n) {
            int step = tape[place++];
            if (step == 0) {
                continue;
            }
            if (step != 1 && step != 2 || place + 32 > n) {
                return false;
            }
            byte[] s = part(tape, place, place + 32);
            it = step == 1 ? sha(row(1), s, it) : sha(row(1), it, s);
            place += 32;
        }
        return Arrays.equals(it, what == 0 ? part(tape, 67, 99) : part(tape, 35, 67));
    }

    int balance(int node, int account) {
        Peer p = peer(node);
        return p == null || account < 0 || account > 15 ? -1 : p.accounts.has[account];
    }

    int count(int what) {
        int[] all = {sky.size(), N, ticks, sent, lost, tape.length, N - honest};
        return what < 0 || what >= all.length ? -1 : all[what];
    }
}
