import java.util.List;

/** Promises 1 to 7: a new object, and what can be done with the tape. */
public final class TapeTest {
    private static final List<byte[]> NONE = List.of();

    public static void main(String[] args) {
        promise01Sizes();
        promise01Start();
        promise02Feed();
        promise03WhoAndHowMuch();
        promise03Signers();
        promise03Room();
        promise04Pass();
        promise05Payments();
        promise05Evidences();
        promise05Refused();
        promise06Stamp();
        promise07Hash();
        Bench.finish("TapeTest");
    }

    private static void promise01Sizes() {
        int[][] cases = {{1, 0, 4, 0}, {4, 4, 13, 4}, {0, 0, 4, 0}, {5, 2, 4, 0}, {-1, 1, 4, 1}, {2, 3, 7, 0},
            {2, 2, 7, 2}, {3, -1, 10, 0}, {Integer.MIN_VALUE, Integer.MAX_VALUE, 4, 0}, {Integer.MAX_VALUE, 1, 4, 1}};
        for (int[] c : cases) {
            Bench b = new Bench(c[0], c[1]);
            Bench.due("nodes of " + c[0], b.x.count(1), c[2]);
            Bench.due("liars of " + c[0] + ", " + c[1], b.x.count(6), c[3]);
            Bench.due("a liar's height", b.x.state(c[2] - c[3], 0), -1);
            Bench.due("the last honest one's height", b.x.state(c[2] - c[3] - 1, 0), 1);
        }
    }

    private static void promise01Start() {
        Bench b = new Bench(1, 1);
        byte[] block = Bench.firstBlock(1, NONE, NONE);
        Bench.due("what flies", b.flights(), 6);
        for (int k = 0; k < 6; k++) {
            Bench.due("the sender", b.x.flying(k, 0), 1);
            Bench.due("the receiver", b.x.flying(k, 1), new int[] {0, 2, 3}[k % 3]);
            Bench.due("the message", b.flight(k),
                k < 3 ? Bench.proposal(1, 1, 0, 255, block) : Bench.vote(2, 1, 1, 0, block));
        }
        for (int node = 0; node < 3; node++) {
            int[] want = {1, 0, node == 1 ? 1 : 0, -1, -1, 1, 0, 1, node == 1 ? 2 : 0, node == 1 ? 3 : 1,
                node == 1 ? 3 : 1, 0};
            for (int what = 0; what < want.length; what++) {
                Bench.due("state(" + node + ", " + what + ")", b.x.state(node, what), want[what]);
            }
        }
        Bench.due("ticks", b.x.count(2), 0);
        Bench.due("sent", b.x.count(3), 6);
    }

    private static void promise02Feed() {
        Bench b = new Bench(1, 1);
        Bench.due("feed", b.x.feed(0x090a0b0c, 0x0d0e0f10, -1, 0x11121314, 0x15161718), true);
        Bench.due("bytes", b.x.count(5), 20);
        Bench.due("feed", b.x.feed(0x21222324, 0, 0, 0, 5), true);
        byte[] got = b.tape(40);
        Bench.due("the tape", got, Plain.row(9, 10, 11, 12, 13, 14, 15, 16, 255, 255, 255, 255, 17, 18, 19, 20, 21, 22,
            23, 24, 0x21, 0x22, 0x23, 0x24, 0, 0, 0, 0, 0, 0, 0, 0, 0, 0, 0, 0, 0, 0, 0, 5));
        Bench.due("bytes", b.x.count(5), 0);
        for (int i = 1; i <= 50; i++) {
            Bench.due("feed " + i, b.x.feed(i, i, i, i, i), true);
        }
        Bench.due("one more", b.x.feed(1, 2, 3, 4, 5), false);
        Bench.due("bytes", b.x.count(5), 1000);
    }

    private static void promise03WhoAndHowMuch() {
        Bench b = new Bench(2, 2);
        b.put(new byte[] {9, 8, 7});
        int[][] refused = {{4, 0, 3}, {-1, 0, 3}, {0, 1, 3}, {7, 0, 3}, {5, 5, 3}, {5, 7, 3}, {5, -1, 3}, {5, 0, 0},
            {5, 0, -1}, {5, 0, 21}, {5, 0, Integer.MAX_VALUE}, {5, 0, Integer.MIN_VALUE}};
        for (int[] r : refused) {
            Bench.due("lie(" + r[0] + ", " + r[1] + ", " + r[2] + ")", b.x.lie(r[0], r[1], r[2]), false);
        }
        Bench.due("the tape stays", b.x.count(5), 20);
        int before = b.x.count(3);
        Bench.due("lie", b.x.lie(5, 6, 3), true);
        Bench.due("the tape is empty", b.x.count(5), 0);
        Bench.due("sent", b.x.count(3), before + 1);
        int k = b.flights() - 1;
        Bench.due("sender", b.x.flying(k, 0), 5);
        Bench.due("receiver", b.x.flying(k, 1), 6);
        Bench.due("what came", b.flight(k), new byte[] {9, 8, 7});
        Bench.due("nothing to lie with", b.x.lie(5, 6, 1), false);
        Bench.due("all of it", b.x.feed(0, 0, 0, 0, 0) && b.x.lie(6, 0, 20), true);
    }

    private static void promise03Signers() {
        byte[] id = Bench.filled(7);
        byte[] id2 = Bench.filled(8);
        byte[] plain = Bench.firstBlock(0, NONE, NONE);
        byte[] honest = Bench.firstBlock(3, List.of(Bench.evidence(2, 2, 1, 0, null, id)), NONE);
        byte[] second = Bench.firstBlock(3,
            List.of(Bench.evidence(3, 1, 1, 0, id, id2), Bench.evidence(0, 2, 1, 0, null, id)), NONE);
        byte[] liars = Bench.firstBlock(3, List.of(Bench.evidence(3, 2, 1, 0, null, id)), NONE);
        Bench b = new Bench(1, 1);
        byte[][] forged = {Bench.proposal(2, 1, 0, 255, plain), Bench.vote(2, 0, 1, 0, null),
            Bench.vote(3, 2, 41, 15, plain), Plain.join(Plain.row(6), Bench.evidence(1, 3, 1, 0, id, id2)),
            Bench.proposal(3, 1, 0, 255, honest), Plain.join(Plain.row(4), honest), Plain.join(Plain.row(4), second)};
        for (int i = 0; i < forged.length; i++) {
            int before = b.x.count(5);
            Bench.due("before forged " + i, before, 0);
            Bench.due("forged " + i, b.lie(3, 0, forged[i]), false);
            Bench.due("the tape stays", b.x.count(5), (forged[i].length + 19) / 20 * 20);
            // one byte less is not well formed, so it may go
            Bench.due("shorter " + i, b.x.lie(3, 0, forged[i].length - 1), true);
        }
        byte[] wrongRound = Bench.vote(2, 0, 1, 16, null);
        byte[][] fine = {Bench.proposal(3, 1, 0, 255, plain), Bench.vote(2, 3, 1, 0, null), wrongRound,
            Plain.join(Plain.row(6), Bench.evidence(3, 3, 1, 0, id, id2)), Plain.join(Plain.row(4), liars),
            Plain.join(Plain.row(4), plain), Plain.row(5, 0, 1),
            Plain.join(Plain.row(0), Bench.payment(0, 1, 1, 0, 1)),
            Plain.join(Plain.row(6), Bench.evidence(1, 1, 1, 0, null, id)),
            Plain.join(Plain.row(6), Bench.evidence(1, 2, 1, 0, id2, id)),
            Plain.join(Plain.row(6), Bench.evidence(1, 2, 1, 0, id, id))};
        for (int i = 0; i < fine.length; i++) {
            Bench.due("fine " + i, b.lie(3, 0, fine[i]), true);
        }
    }

    private static void promise03Room() {
        Bench b = new Bench(1, 1);
        b.fill();
        b.put(new byte[] {9});
        int sent = b.x.count(3);
        Bench.due("lie without room", b.x.lie(3, 0, 1), false);
        Bench.due("the tape stays", b.x.count(5), 20);
        Bench.due("sent", b.x.count(3), sent);
        Bench.due("lost", b.x.count(4), 0);
        b.x.deliver(999);
        int room = 1000 - b.flights();
        for (int i = 0; i < room; i++) {
            Bench.due("lie with room", b.x.lie(3, 0, 1), true);
            b.put(new byte[] {9});
        }
        Bench.due("lie without room", b.x.lie(3, 0, 1), false);
    }

    private static void promise04Pass() {
        Bench b = new Bench(2, 1);
        int[][] refused = {{5, 0, 0}, {7, 0, 0}, {-1, 0, 0}, {6, 6, 0}, {6, 7, 0}, {6, -1, 0}, {6, 0, -1},
            {6, 0, b.flights()}, {6, 0, Integer.MAX_VALUE}, {6, 0, Integer.MIN_VALUE}};
        for (int[] r : refused) {
            Bench.due("pass(" + r[0] + ", " + r[1] + ", " + r[2] + ")", b.x.pass(r[0], r[1], r[2]), false);
        }
        int flights = b.flights();
        int sent = b.x.count(3);
        byte[] m = b.flight(3);
        Bench.due("pass", b.x.pass(6, 4, 3), true);
        Bench.due("what flies", b.flights(), flights + 1);
        Bench.due("sent", b.x.count(3), sent + 1);
        Bench.due("sender", b.x.flying(flights, 0), 6);
        Bench.due("receiver", b.x.flying(flights, 1), 4);
        Bench.due("what came", b.flight(flights), m);
        Bench.due("what was there", b.flight(3), m);
        Bench.due("back to its signer", b.x.pass(6, 1, 0), true);
        b.fill();
        Bench.due("pass without room", b.x.pass(6, 4, 3), false);
        Bench.due("sent", b.x.count(3), sent + 2);
    }

    private static void promise05Payments() {
        Bench b = new Bench(1, 1);
        byte[] head = new byte[101];
        for (int i = 0; i < 101; i++) {
            head[i] = (byte) (i + 100);
        }
        head[100] = 0;
        byte[] one = Bench.filled(5);
        byte[] two = Bench.filled(6);
        byte[] text = Plain.join(Plain.row(9), head, one, two);
        b.put(text);
        // 101 + 20 bytes: two payments stand whole, and six bytes more
        Bench.due("seal", b.x.seal(1, 122, 4), 2);
        byte[] got = b.tape(166);
        byte[] want = text.clone();
        want[1 + 99] = 2;
        byte[] root = Plain.rootOf(List.of(Plain.part(one, 0, 7), Plain.part(one, 7, 14)));
        System.arraycopy(root, 0, want, 1 + 67, 32);
        Bench.due("sealed", got, want);
        b.put(text);
        Bench.due("seal of a head", b.x.seal(1, 102, 0), 0);
        want[1 + 99] = 0;
        System.arraycopy(new byte[64], 0, want, 1 + 3, 32);
        System.arraycopy(b.accountsRoot(0), 0, want, 1 + 35, 32);
        System.arraycopy(new byte[32], 0, want, 1 + 67, 32);
        Bench.due("sealed for a node", b.tape(166), want);
        b.put(new byte[1000]);
        Bench.due("at most 64", b.x.seal(0, 1000, -1), 64);
        Bench.due("all that stand", b.x.seal(0, 101 + 64 * 7 - 1, 3), 63);
        Bench.due("the tape stays", b.x.count(5), 1000);
        Bench.due("at the tape's end", b.x.seal(899, 1000, 3), 0);
    }

    private static void promise05Evidences() {
        byte[] shorter = Bench.evidence(200, 99, 77, 88, null, Bench.filled(1));
        byte[] longer = Bench.evidence(3, 1, 1, 0, Bench.filled(9), Bench.filled(1));
        byte[] payment = Bench.payment(0, 1, 1, 0, 1);
        Bench b = new Bench(1, 1);
        byte[] head = new byte[101];
        head[100] = 2;
        byte[] text = Plain.join(head, shorter, longer, payment);
        b.put(text);
        Bench.due("two evidences and a payment", b.x.seal(0, text.length, -1), 1);
        byte[] got = b.tape(text.length);
        Bench.due("payments", got[99], 1);
        Bench.due("evidences", got[100], 2);
        Bench.due("root", Plain.part(got, 67, 99), Plain.rootOf(List.of(shorter, longer, payment)));
        b.put(text);
        Bench.due("the second is not whole", b.x.seal(0, 101 + 39 + 70, -1), 15);
        got = b.tape(text.length);
        Bench.due("payments", got[99], 15);
        Bench.due("evidences", got[100], 0);
        head[100] = 3;
        b.put(Plain.join(head, shorter, longer, payment));
        Bench.due("it tells three", b.x.seal(0, text.length, -1), (39 + 71 + 7) / 7);
        Bench.due("evidences", b.tape(101)[100], 0);
        head[100] = 1;
        byte[] bad = shorter.clone();
        bad[6] = 2;
        b.put(Plain.join(head, bad, payment));
        Bench.due("a second END of 2", b.x.seal(0, 101 + 46, -1), 6);
        bad = longer.clone();
        bad[5] = 2;
        b.tape(101);
        b.put(Plain.join(head, bad, payment));
        Bench.due("a first END of 2", b.x.seal(0, 101 + 78, -1), 11);
        b.tape(101);
        bad = longer.clone();
        bad[38] = 0;
        b.put(Plain.join(head, bad, payment));
        Bench.due("a second END of 0", b.x.seal(0, 101 + 78, -1), 11);
        b.tape(101);
        b.put(Plain.join(head, shorter));
        Bench.due("just one evidence", b.x.seal(0, 101 + 39, -1), 0);
        Bench.due("it stays", b.tape(101)[100], 1);
    }

    private static void promise05Refused() {
        Bench b = new Bench(1, 1);
        b.put(new byte[220]);
        int[][] refused = {{-1, 220}, {0, 221}, {0, 100}, {120, 220}, {5, 4}, {0, -1}, {0, Integer.MIN_VALUE},
            {Integer.MAX_VALUE, 220}, {Integer.MIN_VALUE, 220}, {Integer.MAX_VALUE, Integer.MIN_VALUE},
            {0, Integer.MAX_VALUE}};
        long hash = b.x.hash(220, 0);
        for (int[] r : refused) {
            Bench.due("seal(" + r[0] + ", " + r[1] + ")", b.x.seal(r[0], r[1], 0), -1);
        }
        Bench.due("nothing changed", b.x.hash(220, 0), hash);
        b.x.crash(0);
        Bench.due("for a node that is down", b.x.seal(0, 101, 0), 0);
        Bench.due("its accounts' root", Plain.part(b.tape(101), 35, 67), b.accountsRoot(0));
    }

    private static void promise06Stamp() {
        Bench b = new Bench(1, 1);
        byte[] id = Bench.idOf(Bench.firstBlock(1, NONE, NONE));
        b.put(new byte[40]);
        Bench.due("of a PROPOSAL", b.x.stamp(8, 0, -5), true);
        Bench.due("the id", b.tape(40), Plain.join(new byte[8], id));
        b.put(new byte[40]);
        int[][] refused = {{9, 0}, {-1, 0}, {Integer.MAX_VALUE, 0}, {0, 3}, {0, 6}, {0, -2}, {0, Integer.MIN_VALUE}};
        for (int[] r : refused) {
            Bench.due("stamp(" + r[0] + ", " + r[1] + ")", b.x.stamp(r[0], r[1], 0), false);
        }
        Bench.due("no head on the tape", b.x.stamp(0, -1, 0), false);
        Bench.due("nothing changed", b.tape(40), new byte[40]);
        byte[] text = new byte[120];
        for (int i = 0; i < 120; i++) {
            text[i] = (byte) (3 * i);
        }
        b.put(text);
        Bench.due("over itself", b.x.stamp(50, -1, 19), true);
        byte[] want = text.clone();
        System.arraycopy(Plain.sha(Plain.part(text, 19, 120)), 0, want, 50, 32);
        Bench.due("the id", b.tape(120), want);
        b.put(text);
        Bench.due("of a head at the start", b.x.stamp(88, -1, 0), true);
        Bench.due("the id", Plain.part(b.tape(120), 88, 120), Plain.sha(Plain.part(text, 0, 101)));
        b.put(text);
        Bench.due("a head too far", b.x.stamp(50, -1, 20), false);
        Bench.due("a head ahead", b.x.stamp(50, -1, -1), false);
        Bench.due("a head at the end of numbers", b.x.stamp(50, -1, Integer.MAX_VALUE), false);
        b.tape(120);
        stampOthers(b);
    }

    private static void stampOthers(Bench b) {
        byte[] junk = new byte[107];
        for (int i = 1; i < 107; i++) {
            junk[i] = (byte) (7 * i);
        }
        int[][] cases = {{4, 102, 1}, {4, 101, -1}, {1, 107, 6}, {1, 106, -1}, {2, 107, -1}};
        for (int[] c : cases) {
            junk[0] = (byte) c[0];
            Bench.due("lie", b.lie(3, 0, Plain.part(junk, 0, c[1])), true);
            b.put(new byte[32]);
            Bench.due("of kind " + c[0] + " with " + c[1], b.x.stamp(0, b.flights() - 1, 0), c[2] > 0);
            byte[] want = c[2] > 0 ? Plain.sha(Plain.part(junk, c[2], c[2] + 101)) : new byte[32];
            Bench.due("the id", b.tape(32), want);
        }
    }

    private static void promise07Hash() {
        Bench b = new Bench(1, 0);
        Bench.due("of nothing", b.x.hash(0, 0), 0xe3b0c44298fc1c14L);
        Bench.due("its end", b.x.hash(0, 3), 0xa495991b7852b855L);
        byte[] text = new byte[1000];
        for (int i = 0; i < 1000; i++) {
            text[i] = (byte) (i * i + 5);
        }
        b.put(text);
        for (int n = 0; n <= 1000; n++) {
            Bench.due("of " + n, b.x.hash(n, n & 3), Plain.eight(Plain.sha(Plain.part(text, 0, n)), 8 * (n & 3)));
        }
        int[][] refused = {{-1, 0}, {1001, 0}, {5, -1}, {5, 4}, {Integer.MIN_VALUE, 1}, {5, Integer.MAX_VALUE}};
        for (int[] r : refused) {
            Bench.due("hash(" + r[0] + ", " + r[1] + ")", b.x.hash(r[0], r[1]), 0);
        }
        Bench.due("the tape stays", b.x.count(5), 1000);
    }
}
