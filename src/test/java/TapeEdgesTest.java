import java.util.ArrayList;
import java.util.List;

/** The boundary cases of promises 1 to 7, sentence by sentence; of each refused call that it changes nothing. */
public final class TapeEdgesTest {
    private static final int MIN = Integer.MIN_VALUE;
    private static final int MAX = Integer.MAX_VALUE;
    private static final List<byte[]> NONE = List.of();

    public static void main(String[] args) {
        newF();
        newLiars();
        newHeights();
        feedFull();
        feedOrder();
        lieWho();
        lieTo();
        lieHowMany();
        lieSigners();
        lieEmptiesTheTape();
        lieRoom();
        passWho();
        passWhich();
        passRoom();
        sealPlaces();
        sealEvidences();
        sealPayments();
        sealNode();
        stampPlaces();
        stampMessages();
        stampTape();
        hashPlaces();
        Play.finish("TapeEdgesTest");
    }

    private static void newF() {
        Play.sentence("F is f, if that is 1 .. 4, otherwise 1");
        int[][] cases = {{1, 4}, {2, 7}, {3, 10}, {4, 13}, {0, 4}, {5, 4}, {-1, 4}, {MIN, 4}, {MAX, 4}};
        for (int[] c : cases) {
            new Play(c[0], 0).due(c[1], "count", 1);
        }
    }

    private static void newLiars() {
        Play.sentence("there are liars liars, if that is 0 .. F, otherwise none");
        for (int f = 1; f <= 4; f++) {
            int[][] cases = {{0, 0}, {1, 1}, {f, f}, {f + 1, 0}, {-1, 0}, {MAX, 0}, {MIN, 0}};
            for (int[] c : cases) {
                new Play(f, c[0]).due(c[1], "count", 6);
            }
        }
        // F is 1 then, whatever was asked for
        new Play(5, 1).due(1, "count", 6);
        new Play(5, 2).due(0, "count", 6);
        Play.sentence("the last ones LIARS, at most F, who do nothing by themselves; the others are HONEST");
        Play p = new Play(2, 2);
        p.due(1, "state", 4, 0);
        p.due(-1, "state", 5, 0);
        p.due(-1, "state", 6, 0);
        p.call("calm", 64, 1);
        for (int liar = 5; liar <= 6; liar++) {
            p.check("nothing comes of a liar", p.find(liar, -1, -1), -1);
        }
    }

    private static void newHeights() {
        Play.sentence("All honest nodes are at height 1, and round 0 has begun for each, from 0 on, with the rules");
        Play p = new Play(3, 3);
        for (int node = 0; node < 7; node++) {
            p.due(1, "state", node, 0);
            p.due(0, "state", node, 1);
            // the proposer has held its own PROPOSAL, and prevoted
            p.due(node == 1 ? 1 : 0, "state", node, 2);
            p.due(1, "state", node, 7);
            p.due(node == 1 ? 3 : 1, "state", node, 9);
        }
        p.due(0, "count", 2);
        p.due(18, "count", 3);
    }

    private static void feedFull() {
        Play.sentence("false if more than 1000 would be there");
        Play p = new Play(1, 1);
        for (int i = 0; i < 49; i++) {
            p.due(1, "feed", i, -i, MIN, MAX, 5);
        }
        p.due(980, "count", 5);
        p.due(1, "feed", 1, 2, 3, 4, 5);
        p.due(1000, "count", 5);
        p.refused(0, "feed", 6, 7, 8, 9, 10);
        p.refused(0, "feed", 0, 0, 0, 0, 0);
    }

    private static void feedOrder() {
        Play.sentence("20 bytes come behind the tape, the highest of a first");
        Play p = new Play(1, 1);
        p.due(1, "feed", 0x01020304, 0x05060708, 0x090a0b0c, 0x0d0e0f10, 0x11121314);
        p.due(1, "feed", -1, MIN, MAX, 0, 0x80);
        p.check("the tape", p.tape(), Plain.row(1, 2, 3, 4, 5, 6, 7, 8, 9, 10, 11, 12, 13, 14, 15, 16, 17, 18, 19, 20,
            255, 255, 255, 255, 128, 0, 0, 0, 127, 255, 255, 255, 0, 0, 0, 0, 0, 0, 0, 128));
    }

    private static void lieWho() {
        Play.sentence("false if the first is no liar");
        Play p = new Play(2, 2);
        p.put(Plain.row(9, 9, 9));
        for (int liar : new int[] {-1, 0, 4, 7, MIN, MAX}) {
            p.refused(0, "lie", liar, 1, 3);
        }
        for (int liar = 5; liar <= 6; liar++) {
            p.fork().due(1, "lie", liar, 1, 3);
        }
        Play none = new Play(1, 0);
        none.put(Plain.row(9));
        none.refused(0, "lie", 3, 0, 1);
    }

    private static void lieTo() {
        Play.sentence("the second no node, or itself");
        Play p = new Play(2, 2);
        p.put(Plain.row(9, 9, 9));
        for (int to : new int[] {-1, 5, 7, MIN, MAX}) {
            p.refused(0, "lie", 5, to, 3);
        }
        for (int to : new int[] {0, 4, 6}) {
            p.fork().due(1, "lie", 5, to, 3);
        }
    }

    private static void lieHowMany() {
        Play.sentence("n is not 1 .. the bytes that there are");
        Play p = new Play(1, 1);
        p.refused(0, "lie", 3, 0, 1);
        p.refused(0, "lie", 3, 0, 0);
        p.put(new byte[40]);
        for (int n : new int[] {0, -1, 41, MIN, MAX}) {
            p.refused(0, "lie", 3, 0, n);
        }
        for (int n : new int[] {1, 40}) {
            Play fine = p.fork();
            fine.due(1, "lie", 3, 0, n);
            fine.due(n, "flying", 6, 2);
        }
        Play full = new Play(1, 1);
        full.put(Bench.filled(7));
        full.put(new byte[960]);
        full.refused(0, "lie", 3, 0, 1001);
        full.due(1, "lie", 3, 0, 1000);
        full.due(1000, "flying", 6, 2);
        full.due(0x0700000000000000L, "bytes", 6, 31);
        full.due(0, "bytes", 6, 992);
        full.due(7, "deliver", 6);
    }

    private static void lieSigners() {
        Play.sentence("they are well formed and tell an honest signer (of a PROPOSAL, a vote, an EVIDENCE, or of an"
            + " evidence in a block)");
        byte[] id = Bench.filled(7);
        // 4 is the last honest one, 5 the first liar
        for (int signer = 4; signer <= 5; signer++) {
            byte[] e = Bench.evidence(signer, 2, 1, 0, null, id);
            byte[] liars = Bench.evidence(6, 1, 41, 15, id, Bench.filled(8));
            byte[] empty = Bench.firstBlock(0, NONE, NONE);
            byte[] first = Bench.firstBlock(5, List.of(e), NONE);
            byte[] second = Bench.firstBlock(5, List.of(liars, e), NONE);
            byte[][] all = {Bench.proposal(signer, 1, 0, 255, empty), Bench.vote(2, signer, 1, 0, null),
                Bench.vote(3, signer, 1, 0, empty), Plain.join(Plain.row(6), e), Bench.proposal(5, 1, 0, 255, first),
                Bench.proposal(5, 1, 0, 255, second), Plain.join(Plain.row(4), first),
                Plain.join(Plain.row(4), second)};
            for (byte[] m : all) {
                Play p = new Play(2, 2);
                p.put(m);
                if (signer == 4) {
                    p.refused(0, "lie", 6, 0, m.length);
                    // a byte less is not well formed, whoever signed it
                    p.due(1, "lie", 6, 0, m.length - 1);
                } else {
                    p.due(1, "lie", 6, 0, m.length);
                }
            }
        }
        // a maker signs nothing, and a PAYMENT, ASK or SNAPSHOT has no signer
        byte[] maker = Plain.join(Plain.row(4), Bench.firstBlock(0, NONE, NONE));
        byte[][] unsigned = {maker, Plain.join(Plain.row(0), Bench.payment(0, 1, 1, 0, 1)), Plain.row(5, 0, 1),
            Plain.join(Plain.row(7, 0, 2), new byte[112])};
        for (byte[] m : unsigned) {
            Play p = new Play(2, 2);
            p.put(m);
            p.due(1, "lie", 6, 0, m.length);
        }
    }

    private static void lieEmptiesTheTape() {
        Play.sentence("the first n bytes of the tape, which is empty then");
        Play p = new Play(1, 1);
        p.put(new byte[60]);
        p.due(1, "lie", 3, 0, 1);
        p.due(0, "count", 5);
        p.put(Plain.row(5));
        p.due(20, "count", 5);
        p.check("the tape", p.tape(), Plain.join(Plain.row(5), new byte[19]));
    }

    private static void lieRoom() {
        Play.sentence("or no room is left (the tape stays then)");
        Play p = Play.nearlyFull();
        p.put(Plain.row(9, 8, 7));
        Play full = p.fork();
        p.due(1, "lie", 12, 0, 3);
        p.due(1000, "count", 0);
        p.due(0, "count", 4);
        full.due(1, "copy", 0);
        full.refused(0, "lie", 12, 0, 3);
        full.due(20, "count", 5);
    }

    private static void passWho() {
        Play.sentence("false if the first is no liar, the second no node, or itself");
        Play p = new Play(2, 2);
        for (int liar : new int[] {-1, 0, 4, 7, MIN, MAX}) {
            p.refused(0, "pass", liar, 1, 0);
        }
        for (int to : new int[] {-1, 6, 7, MIN, MAX}) {
            p.refused(0, "pass", 6, to, 0);
        }
        for (int liar = 5; liar <= 6; liar++) {
            for (int to : new int[] {0, 4, 11 - liar}) {
                Play fine = p.fork();
                fine.due(1, "pass", liar, to, 11);
                fine.sent(12, liar, p.flight(11), to);
            }
        }
    }

    private static void passWhich() {
        Play.sentence("there is none");
        Play p = new Play(1, 1);
        for (int k : new int[] {-1, 6, MIN, MAX}) {
            p.refused(0, "pass", 3, 0, k);
        }
        p.fork().due(1, "pass", 3, 0, 0);
        p.due(1, "pass", 3, 0, 5);
        p.due(7, "count", 3);
        p.due(1, "pass", 3, 0, 6);
        p.refused(0, "pass", 3, 0, 8);
    }

    private static void passRoom() {
        Play.sentence("or no room");
        Play p = Play.nearlyFull();
        Play full = p.fork();
        p.due(1, "pass", 12, 0, 998);
        p.due(1000, "count", 0);
        full.due(1, "copy", 0);
        full.refused(0, "pass", 12, 0, 998);
    }

    private static void sealPlaces() {
        Play.sentence("-1 if at is below 0, n above the bytes that there are, or there are not 101 between");
        Play p = new Play(1, 1);
        byte[] text = new byte[220];
        for (int i = 0; i < text.length; i++) {
            text[i] = (byte) (i * 5 + 1);
        }
        p.put(text);
        int[][] refused = {{-1, 101}, {MIN, 220}, {0, 221}, {0, MAX}, {0, 100}, {1, 101}, {120, 220}, {101, 101},
            {220, 220}, {0, -1}, {0, MIN}, {MAX, 220}, {MIN, MIN}, {MAX, MIN}, {MIN, MAX}, {MAX, MAX}, {-1, 100}};
        for (int[] r : refused) {
            p.refused(-1, "seal", r[0], r[1], 0);
        }
        for (int[] r : new int[][] {{0, 101}, {119, 220}}) {
            Play fine = p.fork();
            fine.due(0, "seal", r[0], r[1], -1);
            byte[] want = text.clone();
            java.util.Arrays.fill(want, r[0] + 67, r[0] + 101, (byte) 0);
            fine.check("all other bytes stay", fine.tape(), want);
        }
        Play empty = new Play(1, 1);
        empty.refused(-1, "seal", 0, 0, 0);
        empty.refused(-1, "seal", 0, 101, 0);
    }

    /** A head that tells so many evidences, and parts behind it. */
    private static byte[] sealed(int evidences, byte[]... parts) {
        byte[] head = new byte[101];
        head[100] = (byte) evidences;
        return Plain.join(head, Plain.join(parts));
    }

    private static void sealCase(byte[] text, int n, int evidences, int payments) {
        Play p = new Play(1, 1);
        p.put(text);
        p.due(payments, "seal", 0, n, -1);
        byte[] got = p.tape();
        p.check("evidences", got[100], evidences);
        p.check("payments", got[99], payments);
        List<byte[]> parts = new ArrayList<>();
        int at = 101;
        for (int e = 0; e < evidences; e++) {
            int size = text[at + 5] == 0 ? 39 : 71;
            parts.add(Plain.part(text, at, at + size));
            at += size;
        }
        for (int i = 0; i < payments; i++, at += 7) {
            parts.add(Plain.part(text, at, at + 7));
        }
        p.check("the root", Plain.part(got, 67, 99), Plain.rootOf(parts));
        p.check("what stands ahead of it", Plain.part(got, 0, 67), Plain.part(text, 0, 67));
        p.check("the parts", Plain.part(got, 101, text.length), Plain.part(text, 101, text.length));
    }

    private static void sealEvidences() {
        Play.sentence("as many evidences as it tells, if it tells at most 2 and they stand whole (5 bytes, whatever"
            + " they are; 0, or 1 and 32 bytes; 1 and 32 bytes), otherwise it tells none from now on");
        byte[] brief = Bench.evidence(255, 255, 65535, 255, null, Bench.filled(1));
        byte[] full = Bench.evidence(0, 0, 0, 0, Bench.filled(9), Bench.filled(2));
        byte[] pay = Bench.payment(0, 1, 1, 0, 1);
        sealCase(sealed(0, brief), 140, 0, 5);
        sealCase(sealed(1, brief), 140, 1, 0);
        sealCase(sealed(1, brief), 139, 0, 5);
        sealCase(sealed(1, full), 172, 1, 0);
        sealCase(sealed(1, full), 171, 0, 10);
        sealCase(sealed(2, brief, full), 211, 2, 0);
        sealCase(sealed(2, brief, full), 210, 0, 15);
        sealCase(sealed(2, full, brief, pay), 218, 2, 1);
        sealCase(sealed(2, full, full, pay), 250, 2, 1);
        sealCase(sealed(2, full), 172, 0, 10);
        sealCase(sealed(3, brief, brief, brief), 218, 0, 16);
        sealCase(sealed(255, brief), 140, 0, 5);
        sealCase(sealed(128, brief), 140, 0, 5);
        sealCase(sealed(1), 101, 0, 0);
        byte[] odd = brief.clone();
        odd[5] = 2;
        sealCase(sealed(1, odd), 140, 0, 5);
        odd = brief.clone();
        odd[6] = 0;
        sealCase(sealed(1, odd), 140, 0, 5);
        odd = brief.clone();
        odd[6] = 2;
        sealCase(sealed(1, odd), 140, 0, 5);
        odd = full.clone();
        odd[5] = (byte) 129;
        sealCase(sealed(1, odd), 172, 0, 10);
        odd = full.clone();
        odd[38] = 0;
        sealCase(sealed(1, odd), 172, 0, 10);
        odd = full.clone();
        odd[38] = 2;
        sealCase(sealed(1, odd), 172, 0, 10);
        // what stands from n on is not looked at
        sealCase(sealed(1, brief, pay), 140, 1, 0);
        sealCase(sealed(1, brief, pay), 101, 0, 0);
    }

    private static void sealPayments() {
        Play.sentence("then as many payments as stand whole (at most 64)");
        byte[] many = new byte[500];
        for (int i = 0; i < many.length; i++) {
            many[i] = (byte) (3 * i);
        }
        byte[] text = sealed(0, many);
        int[][] cases = {{101, 0}, {107, 0}, {108, 1}, {114, 1}, {115, 2}, {541, 62}, {542, 63}, {548, 63}, {549, 64},
            {550, 64}, {556, 64}, {563, 64}, {601, 64}};
        for (int[] c : cases) {
            sealCase(text, c[0], 0, c[1]);
        }
        byte[] full = Bench.evidence(0, 0, 0, 0, Bench.filled(9), Bench.filled(2));
        sealCase(sealed(2, full, full, many), 691, 2, 64);
        sealCase(sealed(2, full, full, many), 690, 2, 63);
        Play p = new Play(1, 1);
        p.put(new byte[1000]);
        p.due(64, "seal", 0, 1000, 0);
        p.due(1000, "count", 5);
        p.due(0, "seal", 899, 1000, 0);
        p.refused(-1, "seal", 900, 1000, 0);
        p.refused(-1, "seal", 899, 1001, 0);
    }

    private static void sealNode() {
        Play.sentence("if node is an honest one (down or not), the id ahead of it and the accounts' root become those"
            + " behind its chain; all other bytes stay");
        Play p = new Play(1, 1);
        p.call("submit", 2, 0, 1, 5, 0, 1);
        p.until(2, 3);
        p.due(1, "crash", 1);
        byte[] text = new byte[120];
        java.util.Arrays.fill(text, (byte) 77);
        text[100] = 0;
        p.put(text);
        byte[] id = Bench.idOf(p.read(101, "block", 2, 2));
        List<byte[]> lines = new ArrayList<>();
        for (int k = 0; k < 16; k++) {
            lines.add(p.read(6, "account", 2, k));
        }
        for (int node : new int[] {-1, 0, 1, 2, 3, 4, MIN, MAX}) {
            Play q = p.fork();
            q.due(2, "seal", 0, 120, node);
            byte[] got = q.tape();
            boolean honest = node >= 0 && node <= 2;
            q.check("the id ahead", Plain.part(got, 3, 35), honest && q.state(node, 0) == 3 ? id
                : honest ? Bench.idOf(q.read(101, "block", node, 1)) : Bench.filled(77));
            if (node == 2) {
                q.check("the accounts' root", Plain.part(got, 35, 67), Plain.rootOf(lines));
            } else if (!honest) {
                q.check("the accounts' root", Plain.part(got, 35, 67), Bench.filled(77));
            }
            q.check("height and maker", Plain.part(got, 0, 3), Plain.part(text, 0, 3));
            q.check("behind the head", Plain.part(got, 101, 120), Plain.part(text, 101, 120));
        }
        Play first = new Play(1, 1);
        first.due(1, "crash", 0);
        first.put(text);
        first.due(2, "seal", 0, 120, 0);
        first.check("ZERO ahead of the first block", Plain.part(first.tape(), 3, 35), new byte[32]);
    }

    private static void stampPlaces() {
        Play.sentence("32 bytes of the tape from byte at on become an id: false if there are not as many bytes");
        Play p = new Play(1, 1);
        p.refused(0, "stamp", 0, 0, 0);
        p.put(new byte[40]);
        for (int at : new int[] {-1, 9, 40, MIN, MAX, MAX - 31}) {
            p.refused(0, "stamp", at, 0, 0);
        }
        byte[] id = Bench.idOf(Bench.firstBlock(1, NONE, NONE));
        for (int at : new int[] {0, 8}) {
            Play fine = p.fork();
            fine.due(1, "stamp", at, 0, MIN);
            fine.check("the tape", fine.tape(), Plain.join(new byte[at], id, new byte[8 - at]));
        }
    }

    private static void stampMessages() {
        Play.sentence("of the block of the message that flies k-th (a PROPOSAL or DECIDED, by its first byte, that has"
            + " a head's 101 bytes); false if no such message");
        Play p = new Play(1, 1);
        p.put(new byte[40]);
        // 0 .. 2 are PROPOSALs, 3 .. 5 votes
        p.fork().due(1, "stamp", 0, 2, 0);
        for (int k : new int[] {3, 5, 6, -2, MIN, MAX}) {
            p.refused(0, "stamp", 0, k, 0);
        }
        byte[] odd = new byte[300];
        for (int i = 1; i < odd.length; i++) {
            odd[i] = (byte) (11 * i);
        }
        // kind, bytes, where its head is (-1: none)
        int[][] cases = {{1, 106, -1}, {1, 107, 6}, {1, 300, 6}, {4, 101, -1}, {4, 102, 1}, {4, 300, 1}, {0, 300, -1},
            {2, 300, -1}, {3, 300, -1}, {5, 300, -1}, {6, 300, -1}, {7, 300, -1}, {255, 300, -1}, {129, 300, -1}};
        for (int[] c : cases) {
            Play q = new Play(1, 1);
            odd[0] = (byte) c[0];
            q.check("the lie", q.lie(3, 0, Plain.part(odd, 0, c[1])), true);
            q.put(new byte[32]);
            if (c[2] < 0) {
                q.refused(0, "stamp", 0, 6, 0);
            } else {
                q.due(1, "stamp", 0, 6, 0);
                q.check("the id", Plain.part(q.tape(), 0, 32), Plain.sha(Plain.part(odd, c[2], c[2] + 101)));
            }
        }
    }

    private static void stampTape() {
        Play.sentence("or, if k is -1, of the 101 bytes of a head that stand on the tape from byte from on (as they are"
            + " ahead of it)");
        byte[] text = new byte[140];
        for (int i = 0; i < text.length; i++) {
            text[i] = (byte) (7 * i + 1);
        }
        Play p = new Play(1, 1);
        p.put(Plain.part(text, 0, 100));
        p.refused(0, "stamp", 0, -1, 0);
        Play q = new Play(1, 1);
        q.put(text);
        for (int from : new int[] {-1, 40, MIN, MAX, MAX - 100}) {
            q.refused(0, "stamp", 0, -1, from);
        }
        q.refused(0, "stamp", 109, -1, 0);
        q.refused(0, "stamp", -1, -1, 0);
        for (int[] c : new int[][] {{0, 0}, {0, 39}, {108, 0}, {108, 39}, {50, 20}}) {
            Play fine = q.fork();
            fine.due(1, "stamp", c[0], -1, c[1]);
            byte[] want = text.clone();
            System.arraycopy(Plain.sha(Plain.part(text, c[1], c[1] + 101)), 0, want, c[0], 32);
            fine.check("the tape", fine.tape(), want);
        }
    }

    private static void hashPlaces() {
        Play.sentence("0 if n is not 0 .. the bytes that there are, or k not 0 .. 3");
        Play p = new Play(1, 1);
        byte[] empty = Plain.sha(new byte[0]);
        p.due(Plain.eight(empty, 0), "hash", 0, 0);
        p.refused(0, "hash", 1, 0);
        byte[] text = new byte[140];
        for (int i = 0; i < text.length; i++) {
            text[i] = (byte) (i + 130);
        }
        p.put(text);
        for (int n : new int[] {-1, 141, MIN, MAX}) {
            p.refused(0, "hash", n, 0);
        }
        for (int k : new int[] {-1, 4, MIN, MAX}) {
            p.refused(0, "hash", 5, k);
        }
        // where SHA-256's own blocks end
        for (int n : new int[] {0, 1, 55, 56, 63, 64, 65, 119, 120, 127, 128, 140}) {
            for (int k = 0; k <= 3; k++) {
                p.due(Plain.eight(Plain.sha(Plain.part(text, 0, n)), 8 * k), "hash", n, k);
            }
        }
        p.check("it stays", p.tape(), text);
        Play full = new Play(1, 1);
        full.put(new byte[1000]);
        full.due(Plain.eight(Plain.sha(new byte[1000]), 24), "hash", 1000, 3);
        full.refused(0, "hash", 1001, 0);
    }
}
