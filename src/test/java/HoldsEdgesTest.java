import java.util.Arrays;
import java.util.List;

/** The boundary cases of what a node has, and of what comes to it. */
public final class HoldsEdgesTest {
    private static final List<byte[]> NONE = List.of();
    private static final byte[] FIRST = Bench.firstBlock(1, NONE, NONE);
    private static final byte[] LOW = Bench.filled(7);
    private static final byte[] HIGH = Bench.filled(8);

    public static void main(String[] args) {
        heightsHeld();
        roundsHeld();
        firstOfEachSigner();
        otherEnds();
        proposalsHeld();
        proposalTwice();
        proofsOfEachSigner();
        proofsOfAnyHeight();
        proofStays();
        decidedFirst();
        snapshotHeights();
        snapshotsStay();
        paymentsComing();
        asksBelow();
        answersToSigners();
        answersWithoutBlock();
        answersInARow();
        asksOfItsHeight();
        asksAbove();
        greaterHeights();
        restsAtTheEnd();
        heldAtTheEnd();
        Play.finish("HoldsEdgesTest");
    }

    /** A vote of the liar comes to node 0: whether it is sent on to 1 and 2, and whether the liar is asked. */
    private static void vote(Play p, int kind, int height, int round, boolean held, boolean asks) {
        Play q = p.fork();
        int at = q.flights();
        byte[] m = Bench.vote(kind, 3, height, round, null);
        q.tell(3, 0, m);
        q.check("what is sent for height " + height, q.flights() - at, (held ? 2 : 0) + (asks ? 1 : 0));
        if (asks) {
            int own = q.state(0, 0);
            q.check("an ASK", q.flight(at), Plain.row(5, 0, own));
            q.check("to the sender", q.call("flying", at, 1), 3);
        }
        if (held) {
            int next = at + (asks ? 1 : 0);
            q.sent(next, 0, m, 1, 2);
        }
    }

    private static void heightsHeld() {
        Play.sentence("what it HOLDS: for its height and the next one");
        Play p = new Play(1, 1);
        for (int kind = 2; kind <= 3; kind++) {
            vote(p, kind, 1, 0, true, false);
            vote(p, kind, 2, 0, true, true);
            vote(p, kind, 3, 0, false, true);
            vote(p, kind, 41, 0, false, true);
        }
        Play q = new Play(1, 1);
        q.until(0, 3);
        for (int kind = 2; kind <= 3; kind++) {
            vote(q, kind, 3, 4, true, false);
            vote(q, kind, 4, 4, true, true);
            vote(q, kind, 5, 4, false, true);
            vote(q, kind, 41, 4, false, true);
        }
    }

    private static void roundsHeld() {
        Play.sentence("for each round; a ROUND (0 .. 15)");
        Play p = new Play(1, 1);
        for (int round : new int[] {0, 1, 14, 15}) {
            vote(p, 2, 1, round, true, false);
            vote(p, 3, 1, round, true, false);
            vote(p, 2, 2, round, true, true);
        }
        // each has a place of its own
        Play q = p.fork();
        for (int kind = 2; kind <= 3; kind++) {
            for (int height = 1; height <= 2; height++) {
                for (int round = 0; round <= 15; round++) {
                    int at = q.flights();
                    q.tell(3, 0, Bench.vote(kind, 3, height, round, FIRST));
                    q.check("kind " + kind + " of " + height + "/" + round, q.flights() - at, height == 1 ? 2 : 3);
                    q.due(0, "state", 0, 11);
                }
            }
        }
    }

    private static void firstOfEachSigner() {
        Play.sentence("of each signer the first one; what is not held (a second one) is not sent on");
        for (int kind = 2; kind <= 3; kind++) {
            Play p = new Play(2, 2);
            byte[] m = Bench.vote(kind, 6, 1, 3, FIRST);
            p.tell(6, 0, m);
            int at = p.flights();
            p.tell(6, 0, m);
            p.tell(5, 0, m);
            p.due(at, "count", 0);
            p.due(0, "state", 0, 11);
            // another signer's, another round's, another kind's is a first one
            Play q = p.fork();
            q.tell(5, 0, Bench.vote(kind, 5, 1, 3, FIRST));
            q.due(at + 5, "count", 0);
            q = p.fork();
            q.tell(6, 0, Bench.vote(kind, 6, 1, 4, FIRST));
            q.due(at + 5, "count", 0);
            q = p.fork();
            q.tell(6, 0, Bench.vote(5 - kind, 6, 1, 3, FIRST));
            q.due(at + 5, "count", 0);
            // and what is held is still the first one
            q = p.fork();
            q.tell(6, 0, Bench.vote(kind, 6, 1, 3, null));
            q.due(1, "state", 0, 11);
            at = q.flights();
            q.tell(6, 0, Plain.row(5, 0, 1));
            q.sent(at, 0, m, 6);
        }
    }

    private static void otherEnds() {
        Play.sentence("If a vote has another END than the one that is held of its kind, height, round, signer, the two"
            + " make an EVIDENCE; if it has none of this signer, that becomes a proof, and it sends it to all");
        byte[] other = FIRST.clone();
        other[2] = 0;
        byte[] a = Bench.idOf(FIRST);
        byte[] b = Bench.idOf(other);
        boolean up = Arrays.compareUnsigned(a, b) < 0;
        byte[][] blocks = {null, FIRST, other};
        for (int kind = 2; kind <= 3; kind++) {
            for (int height = 1; height <= 2; height++) {
                for (int[] c : new int[][] {{0, 1}, {1, 0}, {1, 2}, {2, 1}}) {
                    Play p = new Play(1, 1);
                    p.tell(3, 0, Bench.vote(kind, 3, height, 15, blocks[c[0]]));
                    int at = p.flights() + (height == 2 ? 1 : 0);
                    p.tell(3, 0, Bench.vote(kind, 3, height, 15, blocks[c[1]]));
                    boolean none = blocks[c[0]] == null || blocks[c[1]] == null;
                    byte[] e = Bench.evidence(3, kind, height, 15, none ? null : up ? a : b, none ? a : up ? b : a);
                    p.sent(at, 0, Plain.join(Plain.row(6), e), 1, 2, 3);
                    p.due(1, "state", 0, 11);
                    p.due(2, "paid", 0, 3);
                    // a third END makes nothing more
                    at = p.flights() + (height == 2 ? 1 : 0);
                    p.tell(3, 0, Bench.vote(kind, 3, height, 15, blocks[3 - c[0] - c[1]]));
                    p.due(at, "count", 0);
                    p.due(1, "state", 0, 11);
                }
            }
        }
        Play p = new Play(1, 1);
        p.tell(3, 0, Bench.vote(2, 3, 3, 0, null));
        p.tell(3, 0, Bench.vote(2, 3, 3, 0, FIRST));
        p.due(0, "state", 0, 11);
    }

    private static void proposalsHeld() {
        Play.sentence("the first PROPOSAL (if that is the proposer); a PROPOSAL of another signer than the proposer is"
            + " not sent on");
        // of 13 nodes 9 .. 12 are liars; round 8 of height 1 is node 9's
        for (int signer = 9; signer <= 12; signer++) {
            Play p = new Play(4, 4);
            byte[] m = Bench.proposal(signer, 1, signer - 1, 255, FIRST);
            p.tell(12, 0, m);
            p.check("its proposer's", p.flights() - 24, signer == 12 ? 11 : 10);
            for (int round : new int[] {signer - 2, signer, 0, 15}) {
                Play q = new Play(4, 4);
                q.tell(12, 0, Bench.proposal(signer, 1, round, 255, FIRST));
                q.check("another one's", q.flights(), 24);
            }
        }
        // two of one who is not the proposer prove nothing
        Play p = new Play(1, 1);
        byte[] other = FIRST.clone();
        other[2] = 0;
        p.tell(3, 0, Bench.proposal(3, 1, 1, 255, FIRST));
        p.tell(3, 0, Bench.proposal(3, 1, 1, 255, other));
        p.due(6, "count", 0);
        p.due(0, "state", 0, 11);
    }

    private static void proposalTwice() {
        Play.sentence("or a PROPOSAL of the proposer another block than the one that is held of its height and round"
            + " (END is 1 and its id)");
        byte[] other = FIRST.clone();
        other[2] = 0;
        byte[] a = Bench.idOf(FIRST);
        byte[] b = Bench.idOf(other);
        boolean up = Arrays.compareUnsigned(a, b) < 0;
        for (int turn = 0; turn <= 1; turn++) {
            Play p = new Play(1, 1);
            p.tell(3, 0, Bench.proposal(3, 1, 2, 255, turn == 0 ? FIRST : other));
            int at = p.flights();
            // the same block with another VALID ROUND is the same block
            p.tell(3, 0, Bench.proposal(3, 1, 2, 0, turn == 0 ? FIRST : other));
            p.due(at, "count", 0);
            p.due(0, "state", 0, 11);
            p.tell(3, 0, Bench.proposal(3, 1, 2, 255, turn == 0 ? other : FIRST));
            byte[] e = Plain.join(Plain.row(6), Bench.evidence(3, 1, 1, 2, up ? a : b, up ? b : a));
            p.sent(at, 0, e, 1, 2, 3);
            p.due(1, "state", 0, 11);
        }
    }

    private static void proofsOfEachSigner() {
        Play.sentence("PROOFS (of each signer at most one EVIDENCE); An EVIDENCE of whose signer it has none becomes a"
            + " proof, and is sent on");
        Play p = new Play(2, 2);
        byte[] e5 = Plain.join(Plain.row(6), Bench.evidence(5, 2, 1, 0, null, LOW));
        byte[] e6 = Plain.join(Plain.row(6), Bench.evidence(6, 2, 1, 0, null, LOW));
        p.tell(6, 0, e5);
        p.sent(12, 0, e5, 1, 2, 3, 4);
        p.due(1, "state", 0, 11);
        p.due(2, "paid", 0, 5);
        p.due(0, "paid", 0, 6);
        p.tell(6, 0, e5);
        p.tell(6, 0, Plain.join(Plain.row(6), Bench.evidence(5, 3, 7, 1, LOW, HIGH)));
        p.due(1, "state", 0, 11);
        p.due(16, "count", 0);
        p.tell(5, 0, e6);
        p.due(2, "state", 0, 11);
        p.sent(16, 0, e6, 1, 2, 3, 4);
    }

    private static void proofsOfAnyHeight() {
        Play.sentence("An EVIDENCE (of whatever height)");
        for (int height : new int[] {1, 2, 3, 4, 5, 40, 41}) {
            Play p = new Play(1, 1);
            p.until(0, 3);
            int at = p.flights();
            p.tell(3, 0, Plain.join(Plain.row(6), Bench.evidence(3, 3, height, 15, LOW, HIGH)));
            p.due(1, "state", 0, 11);
            p.due(at + 2, "count", 0);
        }
    }

    private static void proofStays() {
        Play.sentence("becomes a proof, which stays");
        Play p = new Play(1, 1);
        p.tell(3, 2, Plain.join(Plain.row(6), Bench.evidence(3, 2, 1, 0, null, LOW)));
        p.until(2, 6);
        p.due(3, "paid", 2, 3);
        p.due(1, "state", 2, 11);
        // one more is still one too many
        int at = p.flights();
        p.tell(3, 2, Plain.join(Plain.row(6), Bench.evidence(3, 3, 1, 0, null, LOW)));
        p.due(at, "count", 0);
    }

    /** Four nodes: 0 comes again at height 1, the others have decided FIRST, and their DECIDED fly. */
    private static Play decidedFlies() {
        Play p = new Play(2, 1);
        p.due(1, "crash", 0);
        for (int i = 0; i < 20 && (p.state(1, 0) < 2 || p.state(2, 0) < 2 || p.state(3, 0) < 2); i++) {
            p.call("calm", 1, 1);
        }
        p.due(1, "restart", 0);
        for (int node = 1; node <= 3; node++) {
            p.bring(0, node, 5);
        }
        p.due(1, "state", 0, 0);
        return p;
    }

    private static void decidedFirst() {
        Play.sentence("of each sender the first DECIDED of its height; DECIDE: F + 1 DECIDED of just it");
        byte[] truth = Plain.join(Plain.row(4), FIRST);
        byte[] other = truth.clone();
        other[3] = 0;
        Play p = decidedFlies();
        // F + 1 is 3: the liar's true one and two honest ones
        Play q = p.fork();
        q.tell(6, 0, truth);
        q.bring(1, 0, 4);
        q.due(1, "state", 0, 0);
        q.bring(2, 0, 4);
        q.due(2, "state", 0, 0);
        // the liar's first one was another block: its second one does not count
        q = p.fork();
        q.tell(6, 0, other);
        q.tell(6, 0, truth);
        q.bring(1, 0, 4);
        q.bring(2, 0, 4);
        q.due(1, "state", 0, 0);
        q.bring(3, 0, 4);
        q.due(2, "state", 0, 0);
        // one sender's twice are one
        q = p.fork();
        q.tell(6, 0, truth);
        q.tell(6, 0, truth);
        q.bring(1, 0, 4);
        q.due(1, "state", 0, 0);
        // another one behind a true one does not take its place
        q = p.fork();
        q.tell(6, 0, truth);
        q.tell(6, 0, other);
        q.bring(1, 0, 4);
        q.bring(2, 0, 4);
        q.due(2, "state", 0, 0);
        // of another height none is held
        q = p.fork();
        byte[] next = truth.clone();
        next[2] = 2;
        q.tell(6, 0, next);
        q.tell(6, 0, truth);
        q.bring(1, 0, 4);
        q.bring(2, 0, 4);
        q.due(2, "state", 0, 0);
    }

    private static void snapshotHeights() {
        Play.sentence("A SNAPSHOT of a height above its own is held, another one passed over");
        for (int own = 1; own <= 2; own++) {
            Play p = Play.behind(own);
            p.due(own, "state", 0, 0);
            byte[] s = p.flight(p.find(1, 0, 7));
            p.due(1, "pass", 6, 0, p.find(1, 0, 7));
            p.due(7, "deliver", p.flights() - 1);
            for (int height = 2; height <= 4; height++) {
                // what is held takes the place of the true one, of which F are not enough then
                byte[] m = s.clone();
                m[2] = (byte) height;
                Play q = p.fork();
                int at = q.flights();
                q.tell(6, 0, m);
                q.due(at, "count", 0);
                q.bring(1, 0, 7);
                q.due(own, "state", 0, 0);
                q.bring(2, 0, 7);
                q.due(height > own ? own : own + 5, "state", 0, 0);
            }
        }
    }

    /** Nodes 1 and 4 are at height 8, nodes 2 and 3 at 9; node 0 has come again at 1, and what they answer flies. */
    private static Play twoHeights() {
        Play p = new Play(2, 1);
        p.due(1, "crash", 0);
        boolean ready = false;
        for (int i = 0; i < 200 && !ready; i++) {
            p.call("calm", 1, 1);
            ready = true;
            for (int node = 1; node <= 5; node++) {
                ready &= p.state(node, 0) == 8 && p.state(node, 2) == 2;
            }
        }
        p.check("all are about to decide", ready, true);
        for (int to = 2; to <= 3; to++) {
            for (int from = 1; from <= 5; from++) {
                if (from != to) {
                    p.bringOwn(from, to, 3, 8, p.state(1, 1));
                }
            }
            p.due(9, "state", to, 0);
        }
        p.due(1, "restart", 0);
        for (int node = 1; node <= 4; node++) {
            p.bring(0, node, 5);
        }
        return p;
    }

    private static void snapshotsStay() {
        Play.sentence("the pool, and SNAPSHOTs that are held, stay");
        Play p = twoHeights();
        p.due(1, "submit", 0, 0, 1, 5, 0, 1);
        p.bring(2, 0, 7);
        p.bring(1, 0, 7);
        int k = p.find(4, 0, 7);
        p.due(1, "pass", 6, 0, k);
        p.due(7, "deliver", p.flights() - 1);
        p.due(1, "state", 0, 0);
        p.bring(4, 0, 7);
        p.due(8, "state", 0, 0);
        p.due(1, "state", 0, 6);
        p.due(1, "pass", 6, 0, p.find(3, 0, 7));
        p.due(7, "deliver", p.flights() - 1);
        p.due(8, "state", 0, 0);
        // with that of 2, which came before
        p.bring(3, 0, 7);
        p.due(9, "state", 0, 0);
        p.due(1, "state", 0, 6);
        Play.sentence("TAKE: F + 1 SNAPSHOTs that are the same bytes");
        Play q = twoHeights();
        q.bring(1, 0, 7);
        q.bring(2, 0, 7);
        q.bring(3, 0, 7);
        q.bring(4, 0, 7);
        q.due(1, "state", 0, 0);
        byte[] other = Plain.join(Plain.row(7, 0, 8), new byte[112]);
        q.tell(6, 0, other);
        q.due(1, "state", 0, 0);
    }

    private static void paymentsComing() {
        Play.sentence("A PAYMENT that is not in the pool, if there is room, goes there, and is sent on");
        Play p = new Play(1, 1);
        byte[] m = Plain.join(Plain.row(0), Bench.payment(0, 1, 5, 0, 1));
        p.tell(3, 0, m);
        p.sent(6, 0, m, 1, 2);
        p.tell(3, 0, m);
        p.due(8, "count", 0);
        p.due(1, "state", 0, 6);
        // one that can't be made goes there, too
        byte[] late = Plain.join(Plain.row(0), Bench.payment(0, 1, 1000, 65535, 9));
        p.tell(3, 0, late);
        p.due(2, "state", 0, 6);
        p.sent(8, 0, late, 1, 2);
        p.due(1, "crash", 0);
        p.due(1, "restart", 0);
        p.due(0, "state", 0, 6);
    }

    private static void asksBelow() {
        Play.sentence("with DECIDED of its chain, if that is one of the four heights below its own, and it has the block;"
            + " otherwise with a SNAPSHOT of its height, its last block's id, its accounts");
        Play p = new Play(1, 1);
        p.until(0, 7);
        for (int height = 1; height <= 8; height++) {
            Play q = p.fork();
            int at = q.flights();
            q.tell(3, 0, Plain.row(5, 0, height));
            if (height >= 7) {
                q.check("no answer for itself", q.flights() == at || q.flight(at)[0] < 4, true);
                continue;
            }
            q.due(at + 1, "count", 0);
            q.due(3, "flying", at, 1);
            byte[] m = q.flight(at);
            if (height >= 3) {
                q.check("DECIDED", m, Plain.join(Plain.row(4), q.read(m.length - 1, "block", 0, height)));
                q.check("its size", m.length, 102 + 7 * m[100]);
            } else {
                byte[] s = Plain.join(Plain.row(7, 0, 7), Bench.idOf(q.read(101, "block", 0, 6)));
                for (int k = 0; k < 16; k++) {
                    s = Plain.join(s, Plain.part(q.read(6, "account", 0, k), 1, 6));
                }
                q.check("SNAPSHOT", m, s);
            }
        }
        // at height 2 the first block is one of the four; at height 5, too, at 6 no more
        for (int[] c : new int[][] {{2, 4}, {5, 4}, {6, 7}}) {
            Play q = new Play(1, 1);
            q.until(0, c[0]);
            q.tell(3, 0, Plain.row(5, 0, 1));
            q.check("answered at " + c[0], q.flight(q.flights() - 1)[0], c[1]);
        }
    }

    private static void answersToSigners() {
        Play.sentence("Others of a height below its own: if it is an ASK, or its sender signed it, it answers the sender");
        Play p = new Play(2, 2);
        for (int i = 0; i < 30 && p.state(0, 0) < 3; i++) {
            p.call("calm", 1, 1);
        }
        p.due(3, "state", 0, 0);
        int at = p.flights();
        byte[][] signed = {Bench.vote(2, 6, 2, 0, null), Bench.vote(3, 6, 2, 15, FIRST), Bench.vote(2, 6, 1, 0, null),
            Bench.proposal(6, 1, 0, 255, FIRST), Bench.proposal(6, 1, 5, 255, FIRST)};
        for (byte[] m : signed) {
            Play q = p.fork();
            q.tell(6, 0, m);
            q.due(at + 1, "count", 0);
            q.due(6, "flying", at, 1);
            q.check("DECIDED", q.call("bytes", at, 0) >>> 56, 4);
            q = p.fork();
            q.tell(5, 0, m);
            q.due(at, "count", 0);
        }
        byte[][] others = {Plain.join(Plain.row(4), FIRST), Plain.join(Plain.row(7, 0, 2), new byte[112]),
            Plain.join(Plain.row(7, 0, 3), new byte[112])};
        for (byte[] m : others) {
            Play q = p.fork();
            q.tell(6, 0, m);
            q.due(at, "count", 0);
        }
        // of its own height it is no answer, but sent on
        Play q = p.fork();
        q.tell(6, 0, Bench.vote(2, 6, 3, 9, null));
        q.due(at + 5, "count", 0);
    }

    private static void answersWithoutBlock() {
        Play.sentence("and it has the block; the blocks between it does not have");
        Play p = Play.behind(1);
        p.due(1, "pass", 6, 0, p.find(1, 0, 7));
        p.due(7, "deliver", p.flights() - 1);
        p.bring(1, 0, 7);
        p.bring(2, 0, 7);
        p.due(6, "state", 0, 0);
        for (int height = 1; height <= 5; height++) {
            p.due(-1, "block", 0, height, 0);
            Play q = p.fork();
            q.tell(6, 0, Plain.row(5, 0, height));
            q.check("a SNAPSHOT for " + height, q.call("bytes", q.flights() - 1, 0) >>> 56, 7);
        }
        p.until(0, 7);
        Play q = p.fork();
        q.tell(6, 0, Plain.row(5, 0, 6));
        q.check("DECIDED of the first one that it has", q.call("bytes", q.flights() - 1, 0) >>> 56, 4);
    }

    /** One node answers for many heights, as it goes on: each time with the right block. */
    private static void answersInARow() {
        Play.sentence("with DECIDED of its chain, if that is one of the four heights below its own, and it has the block");
        Play p = new Play(2, 1);
        for (int own = 2; own <= 8; own++) {
            p.until(0, own);
            for (int height = Math.max(1, own - 5); height < own; height++) {
                for (int turn = 0; turn < (height == own - 2 ? 2 : 1); turn++) {
                    p.tell(6, 0, Plain.row(5, 0, height));
                    byte[] m = p.flight(p.flights() - 1);
                    byte[] block = Plain.join(Plain.row(4), p.read(m.length - 1, "block", 0, height));
                    if (height >= own - 4) {
                        p.check("DECIDED of " + height + " at " + own, m, block);
                    } else {
                        p.check("SNAPSHOT at " + own, Plain.part(m, 0, 3), Plain.row(7, 0, own));
                    }
                }
            }
        }
        Play.sentence("the blocks between it does not have");
        // it has answered for 4 .. 7; when it has taken a later height, it has none of the four below that
        p.due(1, "crash", 0);
        boolean ready = false;
        for (int i = 0; i < 60 && !ready; i++) {
            p.call("calm", 1, 1);
            ready = p.state(1, 0) >= 13 && p.state(2, 0) == p.state(1, 0) && p.state(3, 0) == p.state(1, 0);
        }
        p.due(1, "restart", 0);
        for (int node = 1; node <= 3; node++) {
            p.bring(0, node, 5);
            p.bring(node, 0, 7);
        }
        int own = p.state(0, 0);
        p.check("it has taken", own, p.state(1, 0));
        for (int height = own - 4; height < own; height++) {
            p.tell(6, 0, Plain.row(5, 0, height));
            p.check("SNAPSHOT for " + height, Plain.part(p.flight(p.flights() - 1), 0, 3), Plain.row(7, 0, own));
        }
    }

    private static void asksOfItsHeight() {
        Play.sentence("An ASK of its height: it answers with all that it holds of that height: by rounds, of each the"
            + " PROPOSAL, the PREVOTEs by signers, the PRECOMMITs by signers");
        Play p = new Play(2, 2);
        byte[][] want = {p.flight(0), p.flight(6), Bench.vote(2, 5, 1, 0, null), Bench.vote(2, 6, 1, 0, FIRST),
            Bench.vote(3, 5, 1, 0, FIRST), Bench.vote(3, 6, 1, 0, null), Bench.proposal(5, 1, 4, 255, FIRST),
            Bench.vote(3, 6, 1, 4, null), Bench.vote(2, 5, 1, 15, null), Bench.vote(3, 5, 1, 15, null)};
        // in another order, and with some of the next height
        p.tell(5, 2, want[9]);
        p.tell(6, 2, want[7]);
        p.tell(6, 2, want[5]);
        p.tell(6, 2, want[3]);
        p.tell(5, 2, Bench.vote(2, 5, 2, 0, null));
        p.tell(5, 2, want[8]);
        p.tell(5, 2, want[6]);
        p.tell(5, 2, want[4]);
        p.tell(5, 2, want[2]);
        p.due(2, "deliver", p.findOwn(1, 2, 2, 1, 0));
        p.due(1, "deliver", p.findOwn(1, 2, 1, 1, 0));
        int at = p.flights();
        p.tell(6, 2, Plain.row(5, 0, 1));
        byte[] own = Bench.vote(2, 2, 1, 0, FIRST);
        byte[][] all = {want[0], want[1], own, want[2], want[3], want[4], want[5], want[6], want[7], want[8], want[9]};
        p.due(at + all.length, "count", 0);
        for (int i = 0; i < all.length; i++) {
            p.check("answer " + i, p.flight(at + i), all[i]);
            p.check("to whom", p.call("flying", at + i, 1), 6);
            p.check("of whom", p.call("flying", at + i, 0), 2);
        }
        // one that holds nothing answers with nothing
        Play q = new Play(2, 2);
        q.tell(6, 0, Plain.row(5, 0, 1));
        q.due(12, "count", 0);
    }

    private static void asksAbove() {
        Play.sentence("of a greater one: nothing");
        Play p = new Play(1, 1);
        p.ticks(4);
        int at = p.flights();
        for (int height : new int[] {2, 3, 41}) {
            Play q = p.fork();
            q.tell(3, 0, Plain.row(5, 0, height));
            q.due(at, "count", 0);
        }
        p.tell(3, 0, Plain.row(5, 0, 1));
        p.due(at + 1, "count", 0);
    }

    private static void greaterHeights() {
        Play.sentence("Of a greater height (no ASK; a DECIDED, too): it sends ASK of its height to the sender");
        Play p = new Play(1, 1);
        int at = p.flights();
        byte[] two = Bench.block(2, 0, LOW, HIGH, NONE, NONE);
        byte[] end = Bench.block(41, 0, LOW, HIGH, NONE, NONE);
        byte[][] all = {Plain.join(Plain.row(4), two), Plain.join(Plain.row(4), end), Bench.proposal(3, 41, 0, 255, end),
            Bench.vote(2, 3, 3, 0, null), Bench.vote(3, 3, 41, 0, two)};
        for (byte[] m : all) {
            Play q = p.fork();
            q.tell(3, 0, m);
            q.sent(at, 0, Plain.row(5, 0, 1), 3);
            q.tell(3, 0, m);
            q.due(at + 2, "count", 0);
        }
        Play q = p.fork();
        q.tell(3, 0, Plain.join(Plain.row(4), FIRST));
        q.due(at, "count", 0);
        q.tell(3, 0, Plain.join(Plain.row(7, 0, 41), new byte[112]));
        q.due(at, "count", 0);
        // not to the signer, but to the sender
        q = new Play(2, 2);
        q.tell(5, 0, Bench.vote(2, 6, 5, 0, null));
        q.sent(12, 0, Plain.row(5, 0, 1), 5);
    }

    /** All honest nodes at 41, and nothing flies. */
    private static Play atTheEnd(int f) {
        Play p = new Play(f, 1);
        boolean ready = false;
        for (int i = 0; i < 20 && !ready; i++) {
            p.call("calm", 64, 1);
            ready = true;
            for (int node = 0; node < 3 * f; node++) {
                ready &= p.state(node, 0) == 41;
            }
        }
        p.call("calm", 1, 0);
        p.due(0, "count", 0);
        return p;
    }

    private static void restsAtTheEnd() {
        Play.sentence("(Behind height 40 none begins: the node is at 41, and rests: no rule holds any more.)");
        Play p = atTheEnd(2);
        int[] want = {41, 0, 0, -1, -1, 1, 0, 0, 0};
        for (int node = 0; node < 6; node++) {
            for (int what = 0; what < want.length; what++) {
                p.due(want[what], "state", node, what);
            }
            p.check("a block of height 40", p.call("block", node, 40, 0) >>> 48, 40);
            p.due(-1, "block", node, 41, 0);
        }
        p.due(0, "calm", 64, 0);
        p.due(41, "state", 0, 0);
        long notes = p.call("state", 0, 9);
        // 41 modulo 7 is the liar's: a PROPOSAL of round 0 that could be valid, and nobody votes
        Play q = p.fork();
        q.put(Bench.proposal(6, 41, 0, 255, Bench.block(41, 6, LOW, LOW, NONE, NONE)));
        q.due(0, "seal", 6, 107, 0);
        q.due(1, "lie", 6, 0, 107);
        q.due(1, "deliver", 0);
        q.due(5, "count", 0);
        q.due(notes, "state", 0, 9);
        q.due(0, "state", 0, 2);
        q.due(0, "state", 0, 7);
        // each of the other five sends it on to the four that are neither the sender nor the signer nor itself
        q.due(25, "calm", 64, 0);
        q.due(notes, "state", 0, 9);
        q.due(0, "state", 5, 2);
        Play.sentence("the timer of its step is set (not at height 41)");
        p.due(1, "crash", 0);
        p.due(1, "restart", 0);
        p.due(0, "state", 0, 7);
        p.due(notes, "state", 0, 9);
        p.sent(0, 0, Plain.row(5, 0, 41), 1, 2, 3, 4, 5, 6);
    }

    private static void heldAtTheEnd() {
        Play.sentence("PROPOSALs and votes of its height (41, too) and the next one: what comes to be held is sent on");
        Play p = atTheEnd(1);
        vote(p, 2, 41, 0, true, false);
        vote(p, 3, 41, 15, true, false);
        Play q = p.fork();
        q.tell(3, 0, Bench.vote(2, 3, 41, 7, null));
        q.tell(3, 0, Bench.vote(2, 3, 41, 7, FIRST));
        q.due(1, "state", 0, 11);
        q.tell(3, 0, Plain.row(5, 0, 41));
        q.check("its answer", q.flight(q.flights() - 1), Bench.vote(2, 3, 41, 7, null));
        // 42 is no height
        q = p.fork();
        q.tell(3, 0, Bench.vote(2, 3, 42, 0, null));
        q.due(0, "count", 0);
        q.tell(3, 0, Plain.row(5, 0, 42));
        q.due(0, "count", 0);
        // 36 is not one of the four, 37 is
        q = p.fork();
        q.tell(3, 0, Plain.row(5, 0, 37));
        q.check("DECIDED of 37", q.call("bytes", 0, 0) >>> 32, 0x04002500L | q.call("block", 0, 37, 2) >>> 56);
        q.tell(3, 0, Plain.row(5, 0, 36));
        q.check("SNAPSHOT of 41", q.call("bytes", 1, 0) >>> 40, 0x070029L);
        q.tell(3, 0, Plain.join(Plain.row(4), Bench.block(41, 0, LOW, HIGH, NONE, NONE)));
        q.due(2, "count", 0);
        // payments come still
        q.due(1, "submit", 0, 0, 1, 5, 0, 1);
        q.due(1, "state", 0, 6);
    }
}
