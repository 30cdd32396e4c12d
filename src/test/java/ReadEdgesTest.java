import java.util.ArrayList;
import java.util.List;

/** The boundary cases of PATHS and of promises 21 to 26, sentence by sentence. */
public final class ReadEdgesTest {
    private static final int MIN = Integer.MIN_VALUE;
    private static final int MAX = Integer.MAX_VALUE;
    private static final int[] NO_NODES = {-1, 3, 4, MIN, MAX};

    public static void main(String[] args) {
        pathSteps();
        pathParts();
        pathWhere();
        pathEvidencesFirst();
        pathFirst();
        pathLast();
        accountWhere();
        accountEnd();
        sectorWhere();
        sectorEnd();
        proofPlaces();
        proofSteps();
        proofRoots();
        proofOfPaths();
        balanceWhere();
        countWhat();
        countLost();
        Play.finish("ReadEdgesTest");
    }

    /** Four nodes, whose block of height 2 has so many payments, and an evidence if that is asked for. */
    private static Play withParts(int payments, boolean evidence) {
        Play p = new Play(1, 1);
        if (evidence) {
            p.tell(3, 2, Plain.join(Plain.row(6), Bench.evidence(3, 2, 1, 0, null, Bench.filled(1))));
        }
        for (int i = 0; i < payments; i++) {
            p.due(1, "submit", 2, i % 8, 9, 1 + i, i / 8, 1);
        }
        p.until(0, 3);
        byte[] head = p.read(101, "block", 0, 2);
        p.check("payments", head[99], payments);
        p.check("evidences", head[100], evidence ? 1 : 0);
        return p;
    }

    private static List<byte[]> parts(Play p) {
        byte[] head = p.read(101, "block", 0, 2);
        int size = 101 + 7 * head[99] + 39 * head[100];
        return Plain.parts(p.read(size, "block", 0, 2));
    }

    /** The steps of a path by the document's words: from the bottom, how many stand at each time. */
    private static void pathSteps() {
        Play.sentence("for each time that two or more stand: 0, if it is the last one of an odd number (and stays); 1 and the"
            + " 32 bytes ahead of it, if it is the second of two; 2 and the 32 bytes behind it, if it is the first of two");
        Play p = withParts(3, false);
        List<byte[]> parts = parts(p);
        byte[][] leaf = new byte[3][];
        for (int i = 0; i < 3; i++) {
            leaf[i] = Plain.sha(Plain.row(0), parts.get(i));
        }
        byte[] pair = Plain.sha(Plain.row(1), leaf[0], leaf[1]);
        byte[][] want = {Plain.join(Plain.row(2), leaf[1], Plain.row(2), leaf[2]),
            Plain.join(Plain.row(1), leaf[0], Plain.row(2), leaf[2]), Plain.join(Plain.row(0, 1), pair)};
        for (int k = 0; k < 3; k++) {
            p.check("path " + k, p.read(80, "path", 0, 2, k), java.util.Arrays.copyOf(want[k], 80));
        }
        p.due(-1, "path", 0, 2, 3, 0);
        p.check("the root", Plain.sha(Plain.row(1), pair, leaf[2]), Plain.part(p.read(101, "block", 0, 2), 67, 99));
    }

    private static void pathParts() {
        Play.sentence("no part, one part, an odd number of parts");
        Play none = withParts(0, false);
        none.due(-1, "path", 0, 2, 0, 0);
        Play one = withParts(1, false);
        one.due(0, "path", 0, 2, 0, 0);
        one.due(0, "path", 0, 2, 0, 1);
        one.due(-1, "path", 0, 2, 1, 0);
        for (int n : new int[] {2, 4, 5, 6, 7, 8, 9, 15, 16, 17, 31, 33, 63, 64}) {
            Play p = withParts(n, false);
            List<byte[]> parts = parts(p);
            for (int k : new int[] {0, 1, n / 2, n - 2, n - 1}) {
                byte[] path = Plain.pathOf(parts, k);
                p.check("path " + k + " of " + n, p.read(path.length, "path", 0, 2, k), path);
                p.due(0, "path", 0, 2, k, path.length);
                p.due((long) path[path.length - 1] << 56, "path", 0, 2, k, path.length - 1);
            }
            p.due(-1, "path", 0, 2, n, 0);
        }
    }

    private static void pathWhere() {
        Play.sentence("-1 if there is none, or i is below 0");
        Play p = withParts(2, false);
        for (int node : NO_NODES) {
            p.due(-1, "path", node, 2, 0, 0);
        }
        // locked and valid blocks have no paths
        for (int height : new int[] {-1, 0, 1, 3, 40, 41, 42, MIN, MAX}) {
            p.due(-1, "path", 0, height, 0, 0);
        }
        for (int k : new int[] {-1, 2, MIN, MAX}) {
            p.due(-1, "path", 0, 2, k, 0);
        }
        for (int i : new int[] {-1, MIN}) {
            p.due(-1, "path", 0, 2, 0, i);
        }
        byte[] path = Plain.pathOf(parts(p), 1);
        for (int i : new int[] {0, 1, 25, 26, 32, 33, 34, 1000, 1024, MAX - 7, MAX}) {
            p.due(Plain.eight(path, i), "path", 0, 2, 1, i);
        }
        p.due(1, "crash", 0);
        p.due(Plain.eight(path, 0), "path", 0, 2, 1, 0);
    }

    private static void pathEvidencesFirst() {
        Play.sentence("part k (from 0; evidences ahead of payments)");
        Play p = withParts(64, true);
        List<byte[]> parts = parts(p);
        p.check("parts", parts.size(), 65);
        p.check("the first one is the evidence", parts.get(0).length, 39);
        for (int k : new int[] {0, 1, 63, 64}) {
            byte[] path = Plain.pathOf(parts, k);
            p.check("path " + k, p.read(path.length, "path", 0, 2, k), path);
        }
        p.due(-1, "path", 0, 2, 65, 0);
    }

    private static void pathFirst() {
        Play.sentence("of an honest node's block at a height of its chain (1 .. 40)");
        // the first block is that of round 1, whose proposer knows of payments
        Play p = new Play(1, 1);
        p.due(1, "submit", 2, 0, 1, 5, 0, 1);
        p.due(1, "submit", 2, 1, 2, 5, 0, 1);
        p.passRound();
        p.until(0, 2);
        List<byte[]> parts = List.of(Bench.payment(0, 1, 5, 0, 1), Bench.payment(1, 2, 5, 0, 1));
        p.check("the first block", p.read(115, "block", 0, 1), Bench.firstBlock(2, List.of(), parts));
        for (int k = 0; k < 2; k++) {
            p.check("a path of it", p.read(33, "path", 0, 1, k), Plain.pathOf(parts, k));
        }
        p.due(-1, "path", 0, 0, 0, 0);
        p.due(-1, "path", 0, 2, 0, 0);
    }

    private static void pathLast() {
        Play.sentence("of an honest node's block at a height of its chain (1 .. 40)");
        Play p = new Play(1, 0);
        for (int i = 0; i < 400 && p.state(0, 0) < 39; i++) {
            p.call("calm", 1, 1);
        }
        for (int node = 0; node < 4; node++) {
            for (int k = 0; k < 3; k++) {
                p.due(1, "submit", node, 4 * node + k, 15, 1, 0, 1);
            }
        }
        p.call("calm", 64, 1);
        p.due(41, "state", 0, 0);
        byte[] head = p.read(101, "block", 0, 40);
        p.check("it has parts", head[99] > 1, true);
        List<byte[]> parts = Plain.parts(p.read(101 + 7 * head[99], "block", 0, 40));
        byte[] path = Plain.pathOf(parts, 1);
        p.check("a path of the last block", p.read(path.length, "path", 0, 40, 1), path);
        p.due(-1, "path", 0, 41, 1, 0);
        // seal tells the accounts' root behind the last block
        Play.sentence("the id ahead of it and the accounts' root become those behind its chain");
        List<byte[]> lines = new ArrayList<>();
        for (int k = 0; k < 16; k++) {
            lines.add(p.read(6, "account", 0, k));
        }
        p.put(new byte[101]);
        p.due(0, "seal", 0, 101, 0);
        byte[] sealed = Plain.join(new byte[3], Bench.idOf(head), Plain.rootOf(lines), new byte[34]);
        p.due(Plain.eight(Plain.sha(sealed), 0), "hash", 101, 0);
    }

    private static void accountWhere() {
        Play.sentence("-1 if there is none such, or i is below 0");
        Play p = new Play(1, 1);
        for (int node : NO_NODES) {
            p.due(-1, "account", node, 0, 0);
        }
        for (int k : new int[] {-1, 16, MIN, MAX}) {
            p.due(-1, "account", 0, k, 0);
        }
        for (int i : new int[] {-1, MIN}) {
            p.due(-1, "account", 0, 0, i);
        }
        p.check("account 15", p.call("account", 2, 15, 0) >>> 16, 0x0f03e8000000L);
        p.check("account 0", p.call("account", 0, 0, 0) >>> 16, 0x0003e8000000L);
    }

    private static void accountEnd() {
        Play.sentence("Likewise eight bytes of an account's state behind an honest node's chain, and behind it its PATH among"
            + " all 16");
        Play p = withParts(9, true);
        List<byte[]> lines = new ArrayList<>();
        for (int k = 0; k < 16; k++) {
            lines.add(p.read(6, "account", 0, k));
        }
        for (int k = 0; k < 16; k++) {
            byte[] all = Plain.join(lines.get(k), Plain.pathOf(lines, k));
            p.check("its size", all.length, 6 + 4 * 33);
            p.check("account " + k, p.read(144, "account", 0, k), java.util.Arrays.copyOf(all, 144));
            for (int i : new int[] {130, 131, 137, 138, 139, 1000, 1024, MAX - 7, MAX}) {
                p.due(Plain.eight(all, i), "account", 0, k, i);
            }
        }
        p.until(0, 4);
        p.check("it is the root of the next block", Plain.part(p.read(101, "block", 0, 3), 35, 67), Plain.rootOf(lines));
    }

    private static void sectorWhere() {
        Play.sentence("of sector s (0 .. 283) of an honest node's log; -1 if there is none, it can't be read (as before it is"
            + " written first), or i is below 0");
        Play p = new Play(1, 1);
        p.until(0, 2);
        p.check("sector 0", p.call("sector", 0, 0, 0) >>> 56, 1);
        p.check("sector 80", p.call("sector", 0, 80, 0) >>> 56, 2);
        for (int s : new int[] {-1, 284, 285, 512, MIN, MAX, 1, 2, 79, 81, 279, 280, 281, 282, 283}) {
            p.due(-1, "sector", 0, s, 0);
        }
        for (int node : NO_NODES) {
            p.due(-1, "sector", node, 80, 0);
        }
        for (int i : new int[] {-1, MIN}) {
            p.due(-1, "sector", 0, 80, i);
        }
        p.due(1, "crash", 0);
        p.check("of one that is down", p.call("sector", 0, 80, 0) >>> 56, 2);
    }

    private static void sectorEnd() {
        Play.sentence("Eight bytes from byte i on, the first one highest, 0 behind its end");
        // a note of two sectors: the first one is full to its last byte
        Play p = withParts(64, true);
        byte[] block = p.read(588, "block", 0, 2);
        byte[] note = Plain.join(Plain.row(1, 0, 2, 0, 2, 84, 0, 0), block);
        byte[] first = Plain.part(note, 0, 512);
        for (int i : new int[] {0, 1, 503, 504, 505, 510, 511, 512, 513, 1000, MAX - 7, MAX}) {
            p.due(Plain.eight(first, i), "sector", 0, 2, i);
        }
        byte[] second = java.util.Arrays.copyOf(Plain.part(note, 512, note.length), 512);
        for (int i : new int[] {0, 1, 83, 84, 85, 511, 512}) {
            p.due(Plain.eight(second, i), "sector", 0, 3, i);
        }
    }

    private static byte[] step(int side, byte[] other) {
        return Plain.join(Plain.row(side), other);
    }

    private static void proofPlaces() {
        Play.sentence("false for another what, if at is below 102, or n below at, or above the bytes that there are");
        byte[] part = Plain.row(1, 2, 3);
        byte[] head = new byte[101];
        System.arraycopy(Plain.sha(Plain.row(0), part), 0, head, 67, 32);
        System.arraycopy(Plain.sha(Plain.row(0), part), 0, head, 35, 32);
        Play p = new Play(1, 1);
        p.refused(0, "proof", 0, 102, 102);
        // 120 bytes are there: behind the part a path of 0s
        p.put(Plain.join(head, part));
        for (int what = 0; what <= 1; what++) {
            p.due(1, "proof", what, 104, 104);
            p.due(1, "proof", what, 104, 120);
            for (int[] r : new int[][] {{101, 104}, {100, 104}, {0, 104}, {-1, 104}, {MIN, 104}, {104, 103}, {104, 102},
                {104, -1}, {104, MIN}, {104, 121}, {104, MAX}, {121, 121}, {MAX, MAX}, {MIN, MIN}, {121, 120}}) {
                p.refused(0, "proof", what, r[0], r[1]);
            }
        }
        for (int what : new int[] {-1, 2, MIN, MAX}) {
            p.refused(0, "proof", what, 104, 104);
        }
        p.due(0, "proof", 0, 103, 103);
        p.due(0, "proof", 0, 105, 105);
        // a part of one byte is the least one; of none there is none
        byte[] least = new byte[101];
        System.arraycopy(Plain.sha(Plain.row(0, 9)), 0, least, 67, 32);
        System.arraycopy(Plain.sha(Plain.row(0)), 0, least, 35, 32);
        Play q = new Play(1, 1);
        q.put(Plain.join(least, Plain.row(9)));
        q.due(1, "proof", 0, 102, 102);
        q.refused(0, "proof", 1, 101, 101);
        // the greatest one goes to the tape's end
        byte[] great = new byte[899];
        byte[] top = new byte[101];
        System.arraycopy(Plain.sha(Plain.row(0), great), 0, top, 67, 32);
        Play full = new Play(1, 1);
        full.put(Plain.join(top, great));
        full.due(1, "proof", 0, 1000, 1000);
        full.refused(0, "proof", 0, 1000, 1001);
        full.refused(0, "proof", 0, 1001, 1001);
        full.due(0, "proof", 0, 999, 1000);
    }

    private static void proofSteps() {
        Play.sentence("0 (it stays), 1 and 32 bytes s (it becomes H(1, s, it)), 2 and 32 bytes s (H(1, it, s)); false for other"
            + " steps, or if the last one isn't whole");
        byte[] part = Plain.row(42);
        byte[] s = Bench.filled(9);
        byte[] leaf = Plain.sha(Plain.row(0), part);
        byte[] left = Plain.sha(Plain.row(1), s, leaf);
        byte[] right = Plain.sha(Plain.row(1), leaf, s);
        byte[] both = Plain.sha(Plain.row(1), right, s);
        prove(leaf, part, new byte[0], true);
        prove(leaf, part, Plain.row(0), true);
        prove(leaf, part, Plain.row(0, 0, 0), true);
        prove(left, part, step(1, s), true);
        prove(left, part, step(2, s), false);
        prove(right, part, step(2, s), true);
        prove(right, part, step(1, s), false);
        prove(right, part, Plain.join(Plain.row(0), step(2, s), Plain.row(0)), true);
        prove(both, part, Plain.join(step(2, s), step(2, s)), true);
        prove(both, part, step(2, s), false);
        prove(leaf, part, Plain.row(3), false);
        prove(leaf, part, Plain.row(255), false);
        prove(leaf, part, Plain.row(128), false);
        prove(right, part, Plain.join(step(2, s), Plain.row(3)), false);
        prove(right, part, step(130, s), false);
        prove(left, part, step(129, s), false);
        prove(left, part, step(3, s), false);
        for (int missing = 1; missing <= 32; missing += 31) {
            prove(left, part, Plain.part(step(1, s), 0, 33 - missing), false);
            prove(leaf, part, Plain.part(step(1, s), 0, 33 - missing), false);
            prove(leaf, part, Plain.part(step(2, s), 0, 33 - missing), false);
        }
    }

    /** A proof of a root, with and without bytes behind it that are not looked at, at both places of the head. */
    private static void prove(byte[] root, byte[] part, byte[] path, boolean due) {
        for (int what = 0; what <= 1; what++) {
            byte[] head = new byte[101];
            System.arraycopy(root, 0, head, what == 0 ? 67 : 35, 32);
            Play p = new Play(1, 1);
            p.put(Plain.join(head, part, path, Plain.row(7, 7, 7, 7, 7, 7, 7, 7, 7, 7, 7, 7, 7, 7, 7, 7, 7, 7, 7, 7)));
            int at = 101 + part.length;
            p.due(due ? 1 : 0, "proof", what, at, at + path.length);
            p.due(0, "proof", 1 - what, at, at + path.length);
            long tape = p.call("count", 5);
            p.check("it stays", tape, (at + path.length + 39) / 20 * 20);
        }
    }

    private static void proofRoots() {
        Play.sentence("whether its steps lead from H(0, part) to the head's root (what 0) or accounts' root (what 1)");
        byte[] part = Plain.row(1, 1, 1);
        byte[] leaf = Plain.sha(Plain.row(0), part);
        for (int what = 0; what <= 1; what++) {
            for (int at : new int[] {0, 31}) {
                byte[] head = new byte[101];
                System.arraycopy(leaf, 0, head, what == 0 ? 67 : 35, 32);
                head[(what == 0 ? 67 : 35) + at] ^= 1;
                Play p = new Play(1, 1);
                p.put(Plain.join(head, part));
                p.due(0, "proof", what, 104, 104);
            }
        }
        Play none = new Play(1, 1);
        none.put(new byte[120]);
        none.due(0, "proof", 0, 102, 102);
    }

    private static void proofOfPaths() {
        Play.sentence("The PATH of a block's part, or an account's state: from H(0, it) up to the root");
        for (int n : new int[] {1, 2, 3, 64}) {
            Play p = withParts(n, true);
            List<byte[]> parts = parts(p);
            byte[] head = p.read(101, "block", 0, 2);
            for (int k : new int[] {0, n / 2, n}) {
                byte[] path = p.read(Plain.pathOf(parts, k).length, "path", 0, 2, k);
                Play q = p.fork();
                q.put(Plain.join(head, parts.get(k), path));
                int at = 101 + parts.get(k).length;
                q.due(1, "proof", 0, at, at + path.length);
                q.due(0, "proof", 1, at, at + path.length);
            }
        }
        Play p = withParts(5, true);
        byte[][] all = new byte[16][];
        for (int k = 0; k < 16; k++) {
            all[k] = p.read(138, "account", 0, k);
        }
        p.until(0, 4);
        byte[] head = p.read(101, "block", 0, 3);
        for (int k : new int[] {0, 3, 15}) {
            Play q = p.fork();
            q.put(Plain.join(head, all[k]));
            q.due(1, "proof", 1, 107, 239);
            q.due(0, "proof", 0, 107, 239);
            q.due(0, "proof", 1, 107, 206);
        }
    }

    private static void balanceWhere() {
        Play.sentence("What an account has behind an honest node's chain; -1 if there is none such");
        Play p = new Play(1, 1);
        for (int node : NO_NODES) {
            p.due(-1, "balance", node, 0);
        }
        for (int account : new int[] {-1, 16, MIN, MAX}) {
            p.due(-1, "balance", 0, account);
        }
        p.due(1000, "balance", 0, 0);
        p.due(1000, "balance", 2, 15);
        p.due(1, "submit", 2, 0, 15, 999, 0, 1);
        p.until(0, 3);
        p.due(0, "balance", 0, 0);
        p.due(1999, "balance", 0, 15);
        p.due(1001, "balance", 0, 2);
        p.due(1, "crash", 0);
        p.due(0, "balance", 0, 0);
    }

    private static void countWhat() {
        Play.sentence("0 messages that fly, 1 nodes, 2 ticks, 3 messages sent in all, 4 of them lost for want of room, 5 bytes of"
            + " the tape, 6 liars; -1 for another what");
        Play p = new Play(2, 1);
        int[] want = {12, 7, 0, 12, 0, 0, 1};
        for (int what = 0; what <= 6; what++) {
            p.due(want[what], "count", what);
        }
        for (int what : new int[] {-1, 7, 8, MIN, MAX}) {
            p.due(-1, "count", what);
        }
        p.due(0, "tick");
        p.due(1, "count", 2);
        p.put(new byte[20]);
        p.due(20, "count", 5);
        p.due(1, "pass", 6, 0, 0);
        p.due(13, "count", 3);
        p.due(1, "lie", 6, 0, 1);
        p.due(14, "count", 3);
        p.due(0, "count", 5);
        p.due(1, "copy", 0);
        p.due(14, "count", 3);
        p.due(15, "count", 0);
        // one that comes to a liar is lost, but not for want of room
        p.due(1, "deliver", 5);
        p.due(14, "count", 0);
        p.due(14, "count", 3);
        p.due(0, "count", 4);
    }

    private static void countLost() {
        Play.sentence("3 messages sent in all (to each receiver, also lost ones; the liars', too, with those passed), 4 of them"
            + " lost for want of room");
        Play p = Play.nearlyFull();
        long sent = p.call("count", 3);
        p.due(1, "copy", 0);
        p.due(1000, "count", 0);
        p.due(1, "submit", 3, 4, 5, 6, 0, 1);
        p.due(sent + 12, "count", 3);
        p.due(12, "count", 4);
        p.due(1000, "count", 0);
        // what is refused was not sent
        p.refused(0, "pass", 12, 0, 0);
        p.due(sent + 12, "count", 3);
    }
}
