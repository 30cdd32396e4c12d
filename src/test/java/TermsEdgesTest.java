import java.util.ArrayList;
import java.util.Arrays;
import java.util.List;

/** The boundary cases of the document's terms: what is WELL FORMED, and what is just not. */
public final class TermsEdgesTest {
    private static final List<byte[]> NONE = List.of();
    private static final byte[] LOW = Bench.filled(7);
    private static final byte[] HIGH = Bench.filled(8);
    /** Four nodes, 3 is the liar; the others have prevoted, so that node 0 has something to answer an ASK with. */
    private static final Play START = start();

    public static void main(String[] args) {
        payments();
        votes();
        evidenceNumbers();
        evidenceEnds();
        evidenceInBlock();
        blockNumbers();
        blockParts();
        blockSizes();
        blockRoot();
        proposals();
        proposalHeights();
        asks();
        kinds();
        numbersOfNodes();
        snapshots();
        accountStates();
        Play.finish("TermsEdgesTest");
    }

    private static Play start() {
        Play p = new Play(1, 1);
        p.ticks(4);
        return p;
    }

    /** Whether node 0 takes a liar's message for anything: it answers, sends it on, or has one more. */
    private static boolean reacts(byte[] m) {
        Play p = START.fork();
        int at = p.flights();
        p.tell(3, 0, m);
        return p.flights() != at || p.state(0, 6) != 0 || p.state(0, 11) != 0;
    }

    private static void due(String what, byte[] m, boolean well) {
        START.check(what, reacts(m), well);
    }

    /** Whether a message that tells the honest node 0 as a signer may be sent: only if it is not well formed. */
    private static void forged(String what, byte[] m, boolean well) {
        Play p = START.fork();
        START.check(what + ", forged", p.lie(3, 1, m), !well);
    }

    private static byte[] with(byte[] m, int at, int... values) {
        byte[] copy = m.clone();
        for (int i = 0; i < values.length; i++) {
            copy[at + i] = (byte) values[i];
        }
        return copy;
    }

    private static byte[] less(byte[] m) {
        return Arrays.copyOf(m, m.length - 1);
    }

    private static byte[] more(byte[] m) {
        return Arrays.copyOf(m, m.length + 1);
    }

    private static void payments() {
        Play.sentence("A PAYMENT, 7 bytes: from and to (two ACCOUNTS 0 .. 15, not the same), an amount 1 .. 1000 (two"
            + " bytes), a NONCE (two bytes), a TIP 1 .. 9");
        int[][] well = {{0, 15, 1, 0, 1}, {15, 0, 1000, 65535, 9}, {0, 1, 256, 256, 5}, {1, 0, 999, 1, 2}};
        int[][] ill = {{16, 0, 1, 0, 1}, {0, 16, 1, 0, 1}, {255, 0, 1, 0, 1}, {0, 255, 1, 0, 1}, {0, 128, 1, 0, 1},
            {0, 0, 1, 0, 1}, {15, 15, 1, 0, 1}, {0, 1, 0, 0, 1}, {0, 1, 1001, 0, 1}, {0, 1, 65535, 0, 1},
            {0, 1, 32768, 0, 1}, {0, 1, 1, 0, 0}, {0, 1, 1, 0, 10}, {0, 1, 1, 0, 255}, {0, 1, 1, 0, 128}};
        for (int[] c : well) {
            byte[] m = Plain.join(Plain.row(0), Bench.payment(c[0], c[1], c[2], c[3], c[4]));
            due(Arrays.toString(m), m, true);
            due("a byte less", less(m), false);
            due("a byte more", more(m), false);
        }
        for (int[] c : ill) {
            byte[] m = Plain.join(Plain.row(0), Bench.payment(c[0], c[1], c[2], c[3], c[4]));
            due(Arrays.toString(m), m, false);
        }
        due("a kind alone", Plain.row(0), false);
    }

    private static void votes() {
        Play.sentence("2 PREVOTE, 3 PRECOMMIT: its SIGNER, height, round, END");
        for (int kind = 2; kind <= 3; kind++) {
            for (int end = 0; end <= 1; end++) {
                byte[] m = Plain.join(Plain.row(kind, 3, 0, 1, 0), end == 0 ? Plain.row(0) : Plain.join(Plain.row(1), LOW));
                due("a vote", m, true);
                due("a byte less", less(m), false);
                due("a byte more", more(m), false);
                due("signer 4", with(m, 1, 4), false);
                due("signer 255", with(m, 1, 255), false);
                byte[] honest = with(m, 1, 0);
                forged("a vote", honest, true);
                forged("a byte less", less(honest), false);
                forged("a byte more", more(honest), false);
                forged("signer 2", with(m, 1, 2), true);
                // height, round, whether that is well formed
                int[][] cases = {{0, 0, 0}, {1, 0, 1}, {2, 0, 1}, {41, 15, 1}, {42, 0, 0}, {257, 0, 0}, {65535, 0, 0},
                    {1, 15, 1}, {1, 16, 0}, {1, 255, 0}, {41, 16, 0}};
                for (int[] c : cases) {
                    byte[] v = with(m, 2, c[0] >> 8, c[0], c[1]);
                    due("height " + c[0] + ", round " + c[1], v, c[2] == 1);
                    forged("height " + c[0] + ", round " + c[1], with(v, 1, 0), c[2] == 1);
                }
                Play.sentence("The END of a vote: 0 (for none), or 1 and an id");
                due("another END", with(m, 5, 2), false);
                due("another END", with(m, 5, 255), false);
                due("an END for none with an id, or for an id without", with(m, 5, 1 - end), false);
                forged("another END", with(honest, 5, 2), false);
            }
        }
    }

    private static void evidenceNumbers() {
        Play.sentence("An EVIDENCE: its SIGNER (a node; one byte), 1 .. 3, a height (two bytes), a round (one byte)");
        byte[][] both = {Plain.join(Plain.row(6), Bench.evidence(3, 2, 1, 0, LOW, HIGH)),
            Plain.join(Plain.row(6), Bench.evidence(3, 2, 1, 0, null, HIGH))};
        for (byte[] m : both) {
            due("an EVIDENCE", m, true);
            due("a byte less", less(m), false);
            due("a byte more", more(m), false);
            forged("an EVIDENCE", with(m, 1, 0), true);
            forged("a byte less", less(with(m, 1, 0)), false);
            forged("a byte more", more(with(m, 1, 0)), false);
            due("signer 4", with(m, 1, 4), false);
            due("signer 255", with(m, 1, 255), false);
            // kind, height, round, whether that is well formed
            int[][] cases = {{0, 1, 0, 0}, {2, 1, 0, 1}, {3, 1, 0, 1}, {4, 1, 0, 0}, {255, 1, 0, 0}, {130, 1, 0, 0},
                {2, 0, 0, 0}, {2, 41, 0, 1}, {2, 42, 0, 0}, {2, 257, 0, 0}, {2, 1, 15, 1}, {2, 1, 16, 0},
                {2, 1, 255, 0}};
            for (int[] c : cases) {
                byte[] v = with(m, 2, c[0], c[1] >> 8, c[1], c[2]);
                due(Arrays.toString(c), v, c[3] == 1);
                forged(Arrays.toString(c), with(v, 1, 1), c[3] == 1);
            }
        }
    }

    private static void evidenceEnds() {
        Play.sentence("two ENDs, the first one less than the second: 0 (not with a 1) is less than others; of two ids"
            + " the one that has the lesser byte (0 .. 255) at the first place at which they differ");
        byte[] zero = new byte[32];
        byte[] top = Bench.filled(255);
        for (int kind = 1; kind <= 3; kind++) {
            evidence("none and an id", kind, null, HIGH, kind != 1);
            evidence("none and ZERO", kind, null, zero, kind != 1);
            evidence("the lesser one first", kind, LOW, HIGH, true);
            evidence("the greater one first", kind, HIGH, LOW, false);
            evidence("twice the same", kind, LOW, LOW, false);
            evidence("twice ZERO", kind, zero, zero, false);
            evidence("the least and the greatest", kind, zero, top, true);
            evidence("the greatest and the least", kind, top, zero, false);
            evidence("127 is less than 128", kind, with(LOW, 0, 127), with(LOW, 0, 128), true);
            evidence("128 is not less than 127", kind, with(LOW, 0, 128), with(LOW, 0, 127), false);
            evidence("they differ in the last byte", kind, LOW, with(LOW, 31, 8), true);
            evidence("they differ in the last byte", kind, with(LOW, 31, 8), LOW, false);
            evidence("they differ in the last bit", kind, with(LOW, 31, 6), LOW, true);
            evidence("they differ in the last bit", kind, LOW, with(LOW, 31, 6), false);
            evidence("they differ in the first byte's last bit", kind, with(LOW, 0, 6), LOW, true);
            evidence("the last byte's 255 is great", kind, LOW, with(LOW, 31, 255), true);
            evidence("the first place tells", kind, with(HIGH, 3, 1), with(LOW, 3, 2), false);
            evidence("the first place tells", kind, with(LOW, 31, 255), with(LOW, 30, 8), true);
            evidence("the first place tells", kind, with(LOW, 30, 8), with(LOW, 31, 255), false);
            byte[] m = Plain.join(Plain.row(6), Bench.evidence(3, kind, 1, 0, LOW, HIGH));
            due("a first END of 2", with(m, 6, 2), false);
            due("a first END of 0", with(m, 6, 0), false);
            due("a second END of 0", with(m, 39, 0), false);
            due("a second END of 2", with(m, 39, 2), false);
            due("for none twice", Plain.row(6, 3, kind, 0, 1, 0, 0, 0), false);
            due("an id, then none", Plain.join(Plain.row(6, 3, kind, 0, 1, 0, 1), LOW, Plain.row(0)), false);
        }
    }

    private static void evidence(String what, int kind, byte[] one, byte[] two, boolean well) {
        byte[] m = Plain.join(Plain.row(6), Bench.evidence(3, kind, 1, 0, one, two));
        due(what, m, well);
        forged(what, with(m, 1, 2), well);
    }

    /** A block of height 2, as DECIDED: node 0 of height 1 asks for what it does not know. */
    private static byte[] decided(int maker, List<byte[]> evidences, List<byte[]> payments) {
        return Plain.join(Plain.row(4), Bench.block(2, maker, LOW, HIGH, evidences, payments));
    }

    private static byte[] proposed(byte[] decided) {
        return Plain.join(Plain.row(1, 3, 0, decided[2], 0, 255), Plain.part(decided, 1, decided.length));
    }

    /** A block in DECIDED and in a PROPOSAL. */
    private static void block(String what, byte[] decided, boolean well) {
        due(what + ", DECIDED", decided, well);
        due(what + ", PROPOSAL", proposed(decided), well);
    }

    private static void evidenceInBlock() {
        Play.sentence("all in its range (also of parts)");
        byte[] good = Bench.evidence(3, 2, 1, 0, LOW, HIGH);
        byte[] brief = Bench.evidence(3, 3, 41, 15, null, LOW);
        byte[][] well = {good, brief, with(good, 1, 1), with(good, 1, 3), with(good, 2, 0, 41), with(good, 4, 15)};
        byte[][] ill = {with(good, 0, 4), with(good, 1, 0), with(good, 1, 4), with(brief, 1, 1), with(good, 2, 0, 0),
            with(good, 2, 0, 42), with(good, 2, 1, 1), with(good, 4, 16), Bench.evidence(3, 2, 1, 0, HIGH, LOW),
            Bench.evidence(3, 2, 1, 0, LOW, LOW), with(good, 0, 255)};
        for (byte[] e : well) {
            block("an evidence", decided(0, List.of(e), NONE), true);
            block("a second evidence", decided(0, List.of(brief, e), NONE), true);
        }
        for (byte[] e : ill) {
            block("an evidence", decided(0, List.of(e), NONE), false);
            block("a second evidence", decided(0, List.of(brief, e), NONE), false);
        }
    }

    private static void blockNumbers() {
        Play.sentence("A BLOCK: its height (two bytes, 1 ..), its MAKER (a node)");
        byte[] m = decided(0, NONE, NONE);
        int[][] makers = {{0, 1}, {3, 1}, {4, 0}, {255, 0}};
        for (int[] c : makers) {
            block("maker " + c[0], with(m, 3, c[0]), c[1] == 1);
        }
        int[][] heights = {{0, 0}, {2, 1}, {41, 1}, {42, 0}, {258, 0}, {65535, 0}};
        for (int[] c : heights) {
            byte[] v = with(m, 1, c[0] >> 8, c[0]);
            due("height " + c[0], v, c[1] == 1);
            due("height " + c[0], with(proposed(v), 2, c[0] >> 8, c[0]), c[1] == 1);
        }
    }

    private static List<byte[]> many(int n) {
        List<byte[]> all = new ArrayList<>();
        for (int i = 0; i < n; i++) {
            all.add(Bench.payment(i % 15, 15, 1 + i, i, 1 + i % 9));
        }
        return all;
    }

    private static void blockParts() {
        Play.sentence("how many payments (0 .. 64; one byte), how many evidences (0 .. 2; one byte)");
        byte[] e = Bench.evidence(3, 2, 1, 0, LOW, HIGH);
        for (int n : new int[] {0, 1, 2, 63, 64, 65, 66}) {
            block(n + " payments", decided(1, NONE, many(n)), n <= 64);
        }
        for (int n = 0; n <= 3; n++) {
            List<byte[]> all = new ArrayList<>();
            for (int i = 0; i < n; i++) {
                all.add(e);
            }
            block(n + " evidences", decided(1, all, NONE), n <= 2);
            block(n + " evidences and 64 payments", decided(1, all, many(64)), n <= 2);
        }
        byte[] m = decided(1, List.of(e), many(2));
        block("it tells a payment more", with(m, 100, 3), false);
        block("it tells a payment less", with(m, 100, 1), false);
        block("it tells 255 payments", with(m, 100, 255), false);
        block("it tells an evidence more", with(m, 101, 2), false);
        block("it tells an evidence less", with(m, 101, 0), false);
        block("it tells 255 evidences", with(m, 101, 255), false);
        Play.sentence("all in its range (also of parts)");
        int[][] ill = {{16, 0, 1, 0, 1}, {0, 16, 1, 0, 1}, {3, 3, 1, 0, 1}, {0, 1, 0, 0, 1}, {0, 1, 1001, 0, 1},
            {0, 1, 1, 0, 0}, {0, 1, 1, 0, 10}};
        for (int[] c : ill) {
            byte[] bad = Bench.payment(c[0], c[1], c[2], c[3], c[4]);
            block("a part", decided(1, NONE, List.of(bad)), false);
            List<byte[]> last = many(63);
            last.add(bad);
            block("the last part", decided(1, List.of(e), last), false);
        }
    }

    private static void blockSizes() {
        Play.sentence("nothing is missing or behind");
        byte[] e = Bench.evidence(3, 2, 1, 0, null, HIGH);
        byte[][] all = {decided(1, NONE, NONE), decided(1, List.of(e), NONE), decided(1, NONE, many(1)),
            decided(1, List.of(e, e), many(64))};
        for (byte[] m : all) {
            block("a block", m, true);
            block("a byte less", less(m), false);
            block("a byte more", more(m), false);
            block("a payment behind", Plain.join(m, Bench.payment(0, 1, 1, 0, 1)), false);
        }
        due("a head without its last byte", Plain.part(all[0], 0, 101), false);
        due("DECIDED alone", Plain.row(4), false);
        due("PROPOSAL alone", Plain.row(1), false);
        due("a PROPOSAL without a block", Plain.row(1, 3, 0, 2, 0, 255), false);
    }

    private static void blockRoot() {
        Play.sentence("a block's root is as it must be");
        byte[] e = Bench.evidence(3, 2, 1, 0, null, HIGH);
        for (int n : new int[] {0, 1, 2, 3, 4, 5, 6, 7, 8, 9, 31, 33, 63}) {
            byte[] m = decided(1, n % 2 == 0 ? NONE : List.of(e), many(n));
            block("its root of " + n, m, true);
            block("another first byte", with(m, 68, m[68] ^ 1), false);
            block("another last byte", with(m, 99, m[99] ^ 128), false);
        }
        Play.sentence("The root of parts is ZERO without any");
        block("another root without parts", with(decided(1, NONE, NONE), 68, Plain.sha(new byte[0])[0]), false);
        Play.sentence("the last one of an odd number stays as it is");
        List<byte[]> three = many(3);
        byte[][] leaf = new byte[3][];
        for (int i = 0; i < 3; i++) {
            leaf[i] = Plain.sha(Plain.row(0), three.get(i));
        }
        byte[] pair = Plain.sha(Plain.row(1), leaf[0], leaf[1]);
        byte[] right = Plain.sha(Plain.row(1), pair, leaf[2]);
        byte[] doubled = Plain.sha(Plain.row(1), pair, Plain.sha(Plain.row(1), leaf[2], leaf[2]));
        byte[] m = decided(1, NONE, three);
        System.arraycopy(right, 0, m, 68, 32);
        block("it stays", m, true);
        System.arraycopy(doubled, 0, m, 68, 32);
        block("it is not doubled", m, false);
        Play.sentence("put together of H(0, part) of each");
        byte[] one = decided(1, NONE, many(1));
        System.arraycopy(Plain.sha(Plain.row(0), many(1).get(0)), 0, one, 68, 32);
        block("one part", one, true);
        System.arraycopy(Plain.sha(many(1).get(0)), 0, one, 68, 32);
        block("one part without its 0", one, false);
    }

    private static void proposals() {
        Play.sentence("1 PROPOSAL: its SIGNER (a node), height, round (one byte, 0 .. 15), VALID ROUND (0 .. 15, or 255:"
            + " none), block");
        byte[] m = proposed(decided(0, NONE, NONE));
        int[][] signers = {{3, 1}, {4, 0}, {255, 0}};
        for (int[] c : signers) {
            due("signer " + c[0], with(m, 1, c[0]), c[1] == 1);
        }
        int[][] rounds = {{0, 1}, {15, 1}, {16, 0}, {255, 0}};
        for (int[] c : rounds) {
            due("round " + c[0], with(m, 4, c[0]), c[1] == 1);
            forged("round " + c[0], with(with(m, 1, 0), 4, c[0]), c[1] == 1);
        }
        Play.sentence("(its VALID ROUND may be any)");
        int[][] valid = {{0, 1}, {1, 1}, {14, 1}, {15, 1}, {16, 0}, {127, 0}, {128, 0}, {254, 0}, {255, 1}};
        for (int[] c : valid) {
            due("VALID ROUND " + c[0], with(m, 5, c[0]), c[1] == 1);
            forged("VALID ROUND " + c[0], with(with(m, 1, 0), 5, c[0]), c[1] == 1);
            due("VALID ROUND " + c[0] + " of round 15", with(m, 4, 15, c[0]), c[1] == 1);
        }
    }

    private static void proposalHeights() {
        Play.sentence("of a PROPOSAL the block's height is the message's");
        byte[] m = proposed(decided(0, NONE, NONE));
        due("the same", m, true);
        for (int height : new int[] {1, 3, 41}) {
            due("the message's is " + height, with(m, 3, height), false);
            forged("the message's is " + height, with(with(m, 1, 0), 3, height), false);
        }
        due("the block's is 1", with(m, 7, 1), false);
        due("both are 41", with(with(m, 3, 41), 7, 41), true);
        Play.sentence("heights 1 .. 41");
        due("both are 42", with(with(m, 3, 42), 7, 42), false);
        due("both are 0", with(with(m, 3, 0), 7, 0), false);
        forged("both are 1", with(with(with(m, 1, 0), 3, 1), 7, 1), true);
        forged("both are 0", with(with(with(m, 1, 0), 3, 0), 7, 0), false);
        forged("both are 41", with(with(with(m, 1, 0), 3, 41), 7, 41), true);
        forged("both are 42", with(with(with(m, 1, 0), 3, 42), 7, 42), false);
    }

    private static void asks() {
        Play.sentence("5 ASK: height");
        due("of height 1", Plain.row(5, 0, 1), true);
        due("of height 0", Plain.row(5, 0, 0), false);
        due("of height 257", Plain.row(5, 1, 1), false);
        due("a byte less", Plain.row(5, 0), false);
        due("a byte more", Plain.row(5, 0, 1, 0), false);
        due("alone", Plain.row(5), false);
    }

    private static void numbersOfNodes() {
        Play.sentence("its SIGNER (a node), its MAKER (a node): there are N = 3 F + 1");
        for (int f = 1; f <= 4; f++) {
            int last = 3 * f;
            for (int k = last; k <= last + 2; k++) {
                byte[] vote = Bench.vote(2, k, 1, 0, null);
                byte[] evidence = Plain.join(Plain.row(6), Bench.evidence(k, 2, 1, 0, null, LOW));
                byte[] block = Bench.block(2, k, LOW, HIGH, NONE, NONE);
                byte[] held = Bench.block(2, 0, LOW, HIGH, List.of(Bench.evidence(k, 2, 1, 0, null, LOW)), NONE);
                byte[] proposal = Bench.proposal(k, 2, 0, 255, Bench.block(2, 0, LOW, HIGH, NONE, NONE));
                byte[][] all = {vote, evidence, proposal, Plain.join(Plain.row(4), block), Plain.join(Plain.row(4), held)};
                for (byte[] m : all) {
                    Play p = new Play(f, 1);
                    int at = p.flights();
                    p.tell(last, 0, m);
                    p.check("node " + k + " of " + (last + 1), p.flights() != at, k == last);
                }
            }
        }
    }

    private static void kinds() {
        Play.sentence("A MESSAGE: its kind, one byte (0 .. 7)");
        byte[][] all = {Plain.join(Plain.row(0), Bench.payment(0, 1, 1, 0, 1)), proposed(decided(0, NONE, NONE)),
            Bench.vote(2, 3, 1, 0, null), Bench.vote(3, 3, 1, 0, null), decided(0, NONE, NONE), Plain.row(5, 0, 1),
            Plain.join(Plain.row(6), Bench.evidence(3, 2, 1, 0, LOW, HIGH))};
        for (byte[] m : all) {
            due("kind " + m[0], m, true);
            for (int kind : new int[] {8, m[0] + 8, m[0] + 128, 255}) {
                due("kind " + kind, with(m, 0, kind), false);
            }
        }
    }

    private static void snapshots() {
        Play.sentence("7 SNAPSHOT: a height 2 .. 41, an id, the states of all accounts, 0 first, without their numbers"
            + " (of each at most 16000; whatever that makes in all)");
        Play p = Play.behind(1);
        byte[] s = p.flight(p.find(1, 0, 7));
        p.check("a SNAPSHOT", s.length, 115);
        // the liar has sent the true one: that stays held if what it sends then is not well formed
        Play truth = p.fork();
        truth.due(1, "pass", 6, 0, truth.find(1, 0, 7));
        truth.due(7, "deliver", truth.flights() - 1);
        snapshot(truth, "the same one", s, true, true);
        snapshot(truth, "height 2", with(s, 1, 0, 2), true, false);
        snapshot(truth, "height 41", with(s, 1, 0, 41), true, false);
        snapshot(truth, "height 42", with(s, 1, 0, 42), false, true);
        snapshot(truth, "height 0", with(s, 1, 0, 0), false, true);
        snapshot(truth, "height 1", with(s, 1, 0, 1), false, true);
        snapshot(truth, "height 298", with(s, 1, 1, 42), false, true);
        for (int k : new int[] {0, 3, 6, 15}) {
            int at = 35 + 5 * k;
            snapshot(truth, "an account has 0", with(s, at, 0, 0), true, false);
            snapshot(truth, "an account has 16000", with(s, at, 62, 128), true, false);
            snapshot(truth, "an account has 16001", with(s, at, 62, 129), false, true);
            snapshot(truth, "an account has 65535", with(s, at, 255, 255), false, true);
            snapshot(truth, "65535 payments", with(s, at + 2, 255, 255), true, false);
            snapshot(truth, "paid is another one of 0, 1", with(s, at + 4, 1 - s[at + 4]), true, false);
            snapshot(truth, "paid is 2", with(s, at + 4, 2), false, true);
            snapshot(truth, "paid is 255", with(s, at + 4, 255), false, true);
        }
        byte[] rich = s.clone();
        for (int k = 0; k < 16; k++) {
            rich = with(rich, 35 + 5 * k, 62, 128);
        }
        snapshot(truth, "each has 16000", rich, true, false);
        snapshot(truth, "another id", with(s, 3, s[3] ^ 1), true, false);
        snapshot(truth, "a byte less", less(s), false, true);
        snapshot(truth, "a byte more", more(s), false, true);
    }

    private static void snapshot(Play truth, String what, byte[] m, boolean well, boolean taken) {
        Play p = truth.fork();
        int height = p.state(1, 0);
        p.tell(6, 0, m);
        p.bring(1, 0, 7);
        p.due(1, "state", 0, 0);
        p.bring(2, 0, 7);
        p.check(what + (well ? ", well formed" : ", not well formed"), p.state(0, 0), taken ? height : 1);
    }

    private static void accountStates() {
        Play.sentence("An account's STATE, 6 bytes: its number, what it has (two bytes), how many payments there were of"
            + " it (two bytes), 1 if the node of its number has PAID, otherwise 0");
        Play p = new Play(1, 1);
        for (int k = 0; k < 16; k++) {
            p.check("state " + k, p.read(6, "account", 0, k), Plain.row(k, 3, 232, 0, 0, 0));
        }
        p.due(1, "submit", 2, 0, 15, 999, 0, 1);
        p.tell(3, 2, Plain.join(Plain.row(6), Bench.evidence(3, 2, 1, 0, LOW, HIGH)));
        p.until(0, 3);
        p.check("what is empty", p.read(6, "account", 0, 0), Plain.row(0, 0, 0, 0, 1, 0));
        p.check("who has paid", p.read(6, "account", 0, 3), Plain.row(3, 3, 132, 0, 0, 1));
        p.check("the maker", p.read(6, "account", 0, 2), Plain.row(2, 4, 77, 0, 0, 0));
        p.check("who was paid", p.read(6, "account", 0, 15), Plain.row(15, 7, 207, 0, 0, 0));
    }
}
