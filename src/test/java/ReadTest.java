import java.util.ArrayList;
import java.util.List;

/** Promises 21 to 26: paths, accounts, sectors, proofs and what is counted. */
public final class ReadTest {
    private static final List<byte[]> NONE = List.of();

    public static void main(String[] args) {
        promise21Path();
        promise21Edges();
        promise21Refused();
        promise22Account();
        promise23Sector();
        promise23Refused();
        promise24Parts();
        promise24Accounts();
        promise24Refused();
        promise25Balance();
        promise26Count();
        Bench.finish("ReadTest");
    }

    /** Four nodes with a block of height 2 that has an evidence and so many payments. */
    private static Bench withParts(int payments) {
        Bench b = new Bench(1, 1);
        b.tell(3, 2, Plain.join(Plain.row(6), Bench.evidence(3, 3, 1, 0, null, Bench.filled(1))));
        for (int i = 0; i < payments; i++) {
            b.x.submit(2, i % 12, 12 + i % 4, 1 + i, i / 12, 1 + i % 9);
        }
        b.until(0, 3);
        return b;
    }

    private static List<byte[]> partsOf(Bench b, int node, int height) {
        byte[] block = b.block(node, height, 700);
        int size = 101 + 39 * block[100] + 7 * block[99];
        return Plain.parts(Plain.part(block, 0, size));
    }

    private static void promise21Path() {
        for (int payments : new int[] {0, 1, 2, 3, 6, 13, 64}) {
            Bench b = withParts(payments);
            List<byte[]> parts = partsOf(b, 0, 2);
            Bench.due("parts", parts.size(), payments + 1);
            for (int k = 0; k < parts.size(); k++) {
                byte[] path = Plain.pathOf(parts, k);
                for (int i = 0; i < path.length + 9; i += 5) {
                    Bench.due("path of " + k + " at " + i, b.x.path(0, 2, k, i), Plain.eight(path, i));
                }
            }
            Bench.due("no such part", b.x.path(0, 2, parts.size(), 0), -1);
            Bench.due("no such part", b.x.path(0, 2, -1, 0), -1);
            Bench.due("far behind", b.x.path(0, 2, 0, Integer.MAX_VALUE), 0);
        }
    }

    /** Parts of the first and of the last block of a chain. */
    private static void promise21Edges() {
        Bench b = new Bench(1, 0);
        b.until(0, 39);
        b.x.submit(0, 0, 1, 5, 0, 1);
        b.settle();
        Bench.due("payments of height 40", b.x.block(2, 40, 99) >>> 56, 1);
        Bench.due("the path of one alone is empty", b.x.path(2, 40, 0, 0), 0);
        Bench.due("there is no other one", b.x.path(2, 40, 1, 0), -1);
        Bench.due("nor one of height 41", b.x.path(2, 41, 0, 0), -1);
        Bench c = new Bench(1, 0);
        for (int node = 0; node < 4; node++) {
            c.x.crash(node);
        }
        c.settle();
        for (int node = 0; node < 4; node += node == 0 ? 2 : 1) {
            c.x.restart(node);
        }
        // the first proposer is down: the second one's block has what it knows
        c.x.submit(2, 0, 1, 5, 0, 1);
        c.x.submit(2, 1, 2, 5, 0, 1);
        c.x.calm(20, 0);
        List<byte[]> parts = List.of(Bench.payment(0, 1, 5, 0, 1), Bench.payment(1, 2, 5, 0, 1));
        Bench.due("the first block", c.block(0, 1, 115), Bench.firstBlock(2, NONE, parts));
        Bench.due("a path", c.x.path(0, 1, 1, 0), Plain.eight(Plain.pathOf(parts, 1), 0));
        Bench.due("a path", c.x.path(0, 1, 0, 25), Plain.eight(Plain.pathOf(parts, 0), 25));
    }

    private static void promise21Refused() {
        Bench b = withParts(3);
        int[][] refused = {{0, 1, 0, 0}, {0, 3, 0, 0}, {0, 0, 0, 0}, {0, -1, 0, 0}, {3, 2, 0, 0}, {-1, 2, 0, 0},
            {0, 2, 0, -1}, {0, 41, 0, 0}, {0, Integer.MAX_VALUE, 0, 0}, {0, Integer.MIN_VALUE, 0, 0},
            {0, 2, Integer.MAX_VALUE, 0}, {0, 2, Integer.MIN_VALUE, 0}, {0, 2, 0, Integer.MIN_VALUE}};
        for (int[] r : refused) {
            Bench.due("path(" + r[0] + ", " + r[1] + ", " + r[2] + ", " + r[3] + ")",
                b.x.path(r[0], r[1], r[2], r[3]), -1);
        }
    }

    private static void promise22Account() {
        Bench b = withParts(14);
        List<byte[]> lines = new ArrayList<>();
        for (int k = 0; k < 16; k++) {
            int made = k < 2 ? 2 : k < 12 ? 1 : 0;
            int has = b.x.balance(0, k);
            lines.add(Plain.row(k, has >> 8, has, made >> 8, made, k == 3 ? 1 : 0));
        }
        for (int k = 0; k < 16; k++) {
            byte[] all = Plain.join(lines.get(k), Plain.pathOf(lines, k));
            Bench.due("bytes", all.length, 138);
            for (int i = 0; i < 150; i += 3) {
                Bench.due("account " + k + " at " + i, b.x.account(0, k, i), Plain.eight(all, i));
            }
        }
        Bench.due("far behind", b.x.account(0, 0, Integer.MAX_VALUE), 0);
        int[][] refused = {{3, 0, 0}, {-1, 0, 0}, {0, -1, 0}, {0, 16, 0}, {0, 0, -1}, {0, Integer.MIN_VALUE, 0}};
        for (int[] r : refused) {
            Bench.due("account(" + r[0] + ", " + r[1] + ", " + r[2] + ")", b.x.account(r[0], r[1], r[2]), -1);
        }
    }

    private static void promise23Sector() {
        Bench b = new Bench(1, 1);
        byte[] block = Bench.firstBlock(1, NONE, NONE);
        b.until(0, 2);
        byte[][] notes = {Plain.row(2, 0, 1, 0, 0, 9, 0, 0, 0),
            Plain.join(Plain.row(3, 0, 1, 1, 0, 47, 0, 0, 1), Bench.vote(2, 0, 1, 0, block)),
            Plain.join(Plain.row(4, 0, 1, 2, 0, 110, 0, 0, 0), block),
            Plain.join(Plain.row(3, 0, 1, 3, 0, 47, 0, 0, 2), Bench.vote(3, 0, 1, 0, block))};
        // ROUND of height 2 stands where that of height 1 stood
        notes[0][2] = 2;
        for (int k = 0; k < notes.length; k++) {
            Bench.due("note " + k, b.sector(0, 80 + 2 * k, 512), Plain.join(notes[k], new byte[512 - notes[k].length]));
        }
        byte[] chain = Plain.join(Plain.row(1, 0, 1, 0, 0, 109, 0, 0), block);
        Bench.due("CHAIN", b.sector(0, 0, 512), Plain.join(chain, new byte[512 - chain.length]));
        byte[] proposal = Plain.join(Plain.row(3, 0, 1, 1, 0, 116, 0, 0, 0), Bench.proposal(1, 1, 0, 255, block));
        Bench first = new Bench(1, 1);
        Bench.due("the proposer's note", first.sector(1, 82, 116), proposal);
        for (int i = 500; i < 520; i++) {
            Bench.due("at a sector's end", b.x.sector(0, 0, i), 0);
        }
    }

    private static void promise23Refused() {
        Bench b = new Bench(1, 1);
        int[][] refused = {{0, 81, 0}, {0, 82, 0}, {0, 0, 0}, {0, 283, 0}, {0, 284, 0}, {0, -1, 0}, {3, 80, 0},
            {-1, 80, 0}, {0, 80, -1}, {0, Integer.MAX_VALUE, 0}, {0, Integer.MIN_VALUE, 0},
            {0, 80, Integer.MIN_VALUE}};
        for (int[] r : refused) {
            Bench.due("sector(" + r[0] + ", " + r[1] + ", " + r[2] + ")", b.x.sector(r[0], r[1], r[2]), -1);
        }
        Bench.due("behind its end", b.x.sector(0, 80, 512), 0);
        Bench.due("far behind its end", b.x.sector(0, 80, Integer.MAX_VALUE), 0);
        b.x.crash(0);
        Bench.due("of a node that is down", b.x.sector(0, 80, 0) >>> 56, 2);
    }

    private static void promise24Parts() {
        for (int payments : new int[] {0, 2, 13}) {
            Bench b = withParts(payments);
            byte[] head = b.block(0, 2, 101);
            List<byte[]> parts = partsOf(b, 0, 2);
            for (int k = 0; k < parts.size(); k++) {
                byte[] path = Plain.pathOf(parts, k);
                int at = 101 + parts.get(k).length;
                int n = at + path.length;
                b.put(Plain.join(head, parts.get(k), path));
                Bench.due("proof of part " + k, b.x.proof(0, at, n), true);
                Bench.due("of the accounts it is none", b.x.proof(1, at, n), false);
                Bench.due("another part", b.x.proof(0, at - 1, n), false);
                if (path.length > 0) {
                    Bench.due("less than a path", b.x.proof(0, at, n - 1), path[path.length - 1] == 0 && path.length == 1);
                }
                int tape = b.x.count(5);
                b.tape(tape);
            }
        }
    }

    private static void promise24Accounts() {
        Bench b = withParts(5);
        // the proposer of height 3 is the liar: its first round takes time
        b.x.calm(12, 0);
        Bench.due("there is a block of height 3", b.x.block(0, 3, 0) != -1, true);
        byte[] head = b.block(0, 3, 101);
        List<byte[]> lines = new ArrayList<>();
        Bench before = withParts(5);
        for (int k = 0; k < 16; k++) {
            lines.add(Plain.part(Bench.bytesOf(before.x.account(0, k, 0)), 0, 6));
        }
        for (int k = 0; k < 16; k++) {
            Bench.due("put", b.put(Plain.join(head, lines.get(k), Plain.pathOf(lines, k))), true);
            Bench.due("proof of account " + k, b.x.proof(1, 107, 107 + 132), true);
            Bench.due("of the parts it is none", b.x.proof(0, 107, 107 + 132), false);
            b.tape(b.x.count(5));
        }
    }

    private static void promise24Refused() {
        byte[] part = {42};
        byte[] leaf = Plain.sha(Plain.row(0), part);
        byte[] other = Bench.filled(3);
        byte[] up = Plain.sha(Plain.row(1), leaf, other);
        byte[] top = Plain.sha(Plain.row(1), other, up);
        byte[] head = new byte[101];
        System.arraycopy(top, 0, head, 67, 32);
        System.arraycopy(leaf, 0, head, 35, 32);
        byte[] text = Plain.join(head, part, Plain.row(0, 2), other, Plain.row(1), other, Plain.row(0));
        Bench b = new Bench(1, 1);
        b.put(text);
        int n = text.length;
        Bench.due("steps of all kinds", b.x.proof(0, 102, n), true);
        Bench.due("without the last 0", b.x.proof(0, 102, n - 1), true);
        Bench.due("not whole", b.x.proof(0, 102, n - 2), false);
        Bench.due("a step short", b.x.proof(0, 102, 102 + 34), false);
        Bench.due("a path of nothing", b.x.proof(1, 102, 102), true);
        Bench.due("a path of nothing", b.x.proof(0, 102, 102), false);
        int[][] refused = {{2, 102, n}, {-1, 102, n}, {0, 101, n}, {1, 101, 101}, {0, n, 102}, {1, 103, 102},
            {0, 102, b.x.count(5) + 1}, {1, -1, 102}, {1, 102, -1}, {1, Integer.MIN_VALUE, 102},
            {1, Integer.MAX_VALUE, Integer.MAX_VALUE}};
        for (int[] r : refused) {
            Bench.due("proof(" + r[0] + ", " + r[1] + ", " + r[2] + ")", b.x.proof(r[0], r[1], r[2]), false);
        }
        b.tape(b.x.count(5));
        text[102] = 3;
        b.put(text);
        Bench.due("another step", b.x.proof(0, 102, n), false);
        Bench.due("bytes behind are not looked at", b.x.proof(1, 102, 102), true);
        Bench.due("the tape stays", b.x.count(5), (n + 19) / 20 * 20);
    }

    private static void promise25Balance() {
        Bench b = withParts(2);
        // payments: 0 to 12 with 1, tip 1; 1 to 13 with 2, tip 2; the maker is 2, the liar 3
        int[] want = {998, 996, 1103, 900};
        for (int k = 0; k < 4; k++) {
            Bench.due("balance of " + k, b.x.balance(0, k), want[k]);
        }
        Bench.due("balance of 12", b.x.balance(0, 12), 1001);
        Bench.due("balance of 13", b.x.balance(0, 13), 1002);
        int all = 0;
        for (int k = 0; k < 16; k++) {
            all += b.x.balance(0, k);
        }
        Bench.due("in all", all, 16000);
        int[][] refused = {{3, 0}, {-1, 0}, {0, 16}, {0, -1}, {0, Integer.MAX_VALUE}, {Integer.MIN_VALUE, 0}};
        for (int[] r : refused) {
            Bench.due("balance(" + r[0] + ", " + r[1] + ")", b.x.balance(r[0], r[1]), -1);
        }
    }

    private static void promise26Count() {
        Bench b = new Bench(2, 1);
        int[] want = {12, 7, 0, 12, 0, 0, 1};
        for (int what = 0; what < want.length; what++) {
            Bench.due("count(" + what + ")", b.x.count(what), want[what]);
        }
        for (int what : new int[] {-1, 7, Integer.MAX_VALUE, Integer.MIN_VALUE}) {
            Bench.due("count(" + what + ")", b.x.count(what), -1);
        }
        b.x.tick();
        b.x.feed(9, 0, 0, 0, 0);
        Bench.due("ticks", b.x.count(2), 1);
        Bench.due("tape", b.x.count(5), 20);
        b.x.lie(6, 0, 1);
        b.x.pass(6, 0, 0);
        b.x.copy(0);
        Bench.due("what flies", b.x.count(0), 15);
        Bench.due("sent", b.x.count(3), 14);
        b.x.deliver(12);
        Bench.due("what flies", b.x.count(0), 14);
        Bench.due("sent", b.x.count(3), 14);
        b.fill();
        b.x.submit(0, 0, 1, 5, 0, 1);
        Bench.due("what flies", b.x.count(0), 1000);
        Bench.due("sent", b.x.count(3), 20);
        Bench.due("lost", b.x.count(4), 6);
    }
}
