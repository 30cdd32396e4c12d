import java.util.ArrayList;
import java.util.List;

/** The terms behind promises 3, 9, 14, 17: what comes to a node, its rules, rounds, locks and proofs. */
public final class RulesTest {
    private static final List<byte[]> NONE = List.of();
    private static final byte[] FIRST = Bench.firstBlock(1, NONE, NONE);

    public static void main(String[] args) {
        twoVotes();
        twoProposals();
        proposalsOfOthers();
        otherHeights();
        heightsBelow();
        askOfItsHeight();
        evidences();
        wellFormed();
        take();
        takeWhatWasPaid();
        takeNeedsTheSame();
        decideByDecided();
        decideNeedsValid();
        skip();
        lockAndUnlock();
        lockedLater();
        lockedThis();
        judgedAnew();
        build();
        lastRound();
        Bench.finish("RulesTest");
    }

    /** Messages that fly from a place on: receivers must be as told, all from a node with the same bytes. */
    private static void sent(Bench b, int at, int from, byte[] m, int... to) {
        for (int i = 0; i < to.length; i++) {
            Bench.due("sender", b.x.flying(at + i, 0), from);
            Bench.due("receiver", b.x.flying(at + i, 1), to[i]);
            Bench.due("message", b.flight(at + i), m);
        }
        Bench.due("what flies", b.flights(), at + to.length);
    }

    private static void twoVotes() {
        byte[] id = Bench.idOf(FIRST);
        byte[] other = FIRST.clone();
        other[2] = 0;
        byte[] less = Bench.idOf(other);
        boolean swap = java.util.Arrays.compareUnsigned(id, less) < 0;
        for (int kind = 2; kind <= 3; kind++) {
            for (int height = 1; height <= 2; height++) {
                Bench b = new Bench(1, 1);
                b.tell(3, 0, Bench.vote(kind, 3, height, 15, FIRST));
                int at = b.flights();
                b.tell(3, 0, Bench.vote(kind, 3, height, 15, FIRST));
                int asks = height == 1 ? 0 : 1;
                Bench.due("the same one again", b.flights(), at + asks);
                at = b.flights() + asks;
                b.tell(3, 0, Bench.vote(kind, 3, height, 15, other));
                byte[] e = Plain.join(Plain.row(6),
                    Bench.evidence(3, kind, height, 15, swap ? id : less, swap ? less : id));
                sent(b, at, 0, e, 1, 2, 3);
                Bench.due("proofs", b.x.state(0, 11), 1);
                at = b.flights() + asks;
                b.tell(3, 0, Bench.vote(kind, 3, height, 15, null));
                Bench.due("one of each signer", b.flights(), at);
                b.tell(3, 1, Bench.vote(kind, 3, height, 15, FIRST));
                at = b.flights() + asks;
                b.tell(3, 1, Bench.vote(kind, 3, height, 15, null));
                sent(b, at, 1, Plain.join(Plain.row(6), Bench.evidence(3, kind, height, 15, null, id)), 0, 2, 3);
            }
        }
    }

    private static void twoProposals() {
        Bench b = new Bench(1, 1);
        byte[] one = Bench.firstBlock(3, NONE, NONE);
        byte[] two = Bench.firstBlock(3, NONE, List.of(Bench.payment(0, 1, 1, 0, 1)));
        int at = b.flights();
        b.tell(3, 0, Bench.proposal(3, 1, 2, 255, one));
        sent(b, at, 0, Bench.proposal(3, 1, 2, 255, one), 1, 2);
        at = b.flights();
        b.tell(3, 0, Bench.proposal(3, 1, 2, 0, one));
        Bench.due("the same block with another valid round", b.flights(), at);
        b.tell(3, 0, Bench.proposal(3, 1, 2, 255, two));
        boolean swap = java.util.Arrays.compareUnsigned(Bench.idOf(one), Bench.idOf(two)) > 0;
        sent(b, at, 0, Plain.join(Plain.row(6), Bench.evidence(3, 1, 1, 2, Bench.idOf(swap ? two : one),
            Bench.idOf(swap ? one : two))), 1, 2, 3);
        Bench.due("a proof", b.x.paid(0, 3), 2);
    }

    private static void proposalsOfOthers() {
        Bench b = new Bench(1, 1);
        int at = b.flights();
        b.tell(3, 0, Bench.proposal(3, 1, 0, 255, FIRST));
        b.tell(3, 0, Bench.proposal(3, 1, 3, 255, FIRST));
        Bench.due("not sent on", b.flights(), at);
        Bench.due("not voted for", b.x.state(0, 2), 0);
        b.tell(3, 0, Bench.proposal(3, 1, 6, 255, FIRST));
        Bench.due("of the proposer: sent on", b.flights(), at + 2);
    }

    private static void otherHeights() {
        Bench b = new Bench(1, 1);
        byte[] vote = Bench.vote(2, 3, 2, 0, null);
        int at = b.flights();
        b.tell(3, 0, vote);
        Bench.due("ASK first", b.flight(at), Plain.row(5, 0, 1));
        Bench.due("to the sender", b.x.flying(at, 1), 3);
        sent(b, at + 1, 0, vote, 1, 2);
        at = b.flights();
        b.tell(3, 0, Bench.vote(3, 3, 3, 0, null));
        sent(b, at, 0, Plain.row(5, 0, 1), 3);
        at = b.flights();
        byte[] later = FIRST.clone();
        later[1] = 2;
        b.tell(3, 0, Plain.join(Plain.row(4), later));
        sent(b, at, 0, Plain.row(5, 0, 1), 3);
        at = b.flights();
        b.tell(3, 0, Plain.row(5, 0, 2));
        Bench.due("ASK of a greater height", b.flights(), at);
        b.tell(3, 0, Plain.join(Plain.row(4), FIRST));
        Bench.due("DECIDED is not sent on", b.flights(), at);
    }

    private static void heightsBelow() {
        Bench b = new Bench(1, 1);
        b.x.calm(40, 0);
        b.settle();
        int height = b.x.state(0, 0);
        Bench.due("far enough", height > 6, true);
        for (int h = 1; h < height; h++) {
            int at = b.flights();
            b.tell(3, 0, Plain.row(5, 0, h));
            byte[] block = b.block(0, h, 101);
            boolean near = h >= height - 4;
            byte[] want = near ? Plain.join(Plain.row(4), block) : snapshot(b, 0);
            sent(b, at, 0, want, 3);
            b.tell(3, 0, Bench.vote(2, 3, h, 0, null));
            sent(b, at + 1, 0, want, 3);
        }
        int at = b.flights();
        b.tell(3, 0, Plain.join(Plain.row(4), FIRST));
        Bench.due("DECIDED of a height below", b.flights(), at);
        passedOld();
    }

    /** A vote of height 1 that another one than its signer sends is not answered when that height is over. */
    private static void passedOld() {
        Bench b = new Bench(1, 1);
        byte[] vote = b.flight(b.find(1, 0, 2));
        Bench.due("pass", b.x.pass(3, 0, b.find(1, 0, 2)), true);
        b.untilByOwn(0, 2);
        int k = b.find(3, 0, 2);
        Bench.due("the vote", b.flight(k), vote);
        int at = b.flights();
        b.x.deliver(k);
        Bench.due("not answered", b.flights(), at - 1);
    }

    private static byte[] snapshot(Bench b, int node) {
        byte[] last = Bench.idOf(b.block(node, b.x.state(node, 0) - 1, 101));
        byte[] m = Plain.join(Plain.row(7, 0, b.x.state(node, 0)), last);
        for (int k = 0; k < 16; k++) {
            m = Plain.join(m, Plain.part(Bench.bytesOf(b.x.account(node, k, 0)), 1, 6));
        }
        return m;
    }

    private static void askOfItsHeight() {
        Bench b = new Bench(1, 1);
        b.tell(3, 2, Bench.vote(3, 3, 1, 2, null));
        b.tell(3, 2, Bench.vote(2, 3, 1, 0, null));
        b.tell(3, 2, Bench.proposal(3, 1, 2, 255, FIRST));
        b.tell(3, 2, Bench.vote(2, 3, 2, 0, null));
        b.bring(1, 2, 2);
        b.bring(1, 2, 1);
        int at = b.flights();
        b.tell(3, 2, Plain.row(5, 0, 1));
        byte[][] want = {Bench.proposal(1, 1, 0, 255, FIRST), Bench.vote(2, 1, 1, 0, FIRST),
            Bench.vote(2, 2, 1, 0, FIRST), Bench.vote(2, 3, 1, 0, null), Bench.proposal(3, 1, 2, 255, FIRST),
            Bench.vote(3, 3, 1, 2, null)};
        for (int i = 0; i < want.length; i++) {
            Bench.due("receiver", b.x.flying(at + i, 1), 3);
            Bench.due("answer " + i, b.flight(at + i), want[i]);
        }
        Bench.due("what flies", b.flights(), at + want.length);
    }

    private static void evidences() {
        Bench b = new Bench(2, 2);
        byte[] m = Plain.join(Plain.row(6), Bench.evidence(5, 2, 40, 3, null, Bench.filled(1)));
        int at = b.flights();
        b.tell(6, 0, m);
        sent(b, at, 0, m, 1, 2, 3, 4);
        at = b.flights();
        b.tell(6, 0, Plain.join(Plain.row(6), Bench.evidence(5, 3, 1, 0, null, Bench.filled(1))));
        Bench.due("another one of the same signer", b.flights(), at);
        Bench.due("proofs", b.x.state(0, 11), 1);
    }

    /** What is not well formed is not sent on; what is, is. */
    private static void wellFormed() {
        byte[] payment = Bench.payment(0, 1, 1, 0, 1);
        byte[] evidence = Bench.evidence(3, 1, 1, 2, Bench.filled(1), Bench.filled(2));
        byte[] block = Bench.firstBlock(0, List.of(evidence), List.of(payment, payment));
        byte[] m = Bench.proposal(3, 1, 2, 255, block);
        Bench b = new Bench(1, 1);
        // places of bytes in the PROPOSAL, and what they must not be
        int[][] bad = {{1, 4}, {2, 1}, {3, 0}, {3, 42}, {3, 2}, {4, 16}, {5, 16}, {5, 254}, {6, 1}, {7, 0}, {7, 2},
            {8, 4}, {8, 255}, {73, 0}, {104, 0}, {105, 1}, {105, 3}, {105, 65}, {106, 0}, {106, 2}, {106, 3},
            {107, 4}, {108, 0}, {108, 4}, {110, 0}, {110, 42}, {111, 16}, {112, 0}, {112, 2}, {113, 3}, {145, 0},
            {178, 16}, {179, 0}, {181, 0}, {184, 0}, {184, 10}};
        int at = b.flights();
        for (int[] c : bad) {
            byte[] wrong = m.clone();
            Bench.due("byte " + c[0] + " was another", (wrong[c[0]] & 255) == c[1], false);
            wrong[c[0]] = (byte) c[1];
            // its root is made right where a part was made wrong
            if (c[0] > 106) {
                List<byte[]> parts = new ArrayList<>(Plain.parts(Plain.part(wrong, 6, wrong.length)) == null ? NONE
                    : Plain.parts(Plain.part(wrong, 6, wrong.length)));
                System.arraycopy(Plain.rootOf(parts), 0, wrong, 6 + 67, 32);
            }
            b.tell(3, 0, wrong);
            Bench.due("with byte " + c[0] + " being " + c[1], b.flights(), at);
        }
        b.tell(3, 0, Plain.join(m, Plain.row(0)));
        b.tell(3, 0, Plain.part(m, 0, m.length - 1));
        Bench.due("of another size", b.flights(), at);
        b.tell(3, 0, m);
        Bench.due("as it must be", b.flights(), at + 2);
        byte[] edge = Bench.proposal(3, 1, 14, 15, Bench.firstBlock(3, NONE, NONE));
        b.tell(3, 0, edge);
        Bench.due("a valid round above its round", b.flights(), at + 4);
        wellFormedOthers(b);
        wellFormedMany();
    }

    /** At most 64 payments and two evidences. */
    private static void wellFormedMany() {
        byte[] evidence = Bench.evidence(3, 1, 1, 2, Bench.filled(1), Bench.filled(2));
        for (int payments = 64; payments <= 65; payments++) {
            for (int evidences = 2; evidences <= 3; evidences++) {
                byte[] block = Bench.firstBlock(3, java.util.Collections.nCopies(evidences, evidence),
                    java.util.Collections.nCopies(payments, Bench.payment(0, 1, 1, 0, 1)));
                Bench b = new Bench(1, 1);
                int at = b.flights();
                b.tell(3, 0, Bench.proposal(3, 1, 2, 255, block));
                Bench.due(payments + " payments and " + evidences + " evidences", b.flights() - at,
                    payments == 64 && evidences == 2 ? 2 : 0);
            }
        }
    }

    private static void wellFormedOthers(Bench b) {
        int at = b.flights();
        int[][] bad = {{2, 3, 0, 1, 0}, {2, 3, 0, 1, 0, 2}, {2, 3, 0, 1, 0, 0, 0}, {2, 3, 0, 1, 0, 1}, {2, 3, 0, 0, 0, 0},
            {2, 3, 0, 42, 0, 0}, {2, 3, 1, 1, 0, 0}, {2, 3, 0, 1, 16, 0}, {2, 4, 0, 1, 0, 0}, {3, 255, 0, 1, 0, 0},
            {5, 0}, {5, 0, 0}, {5, 0, 1, 0}, {8, 0, 1}, {6}, {7, 0, 2}, {4}, {1}, {0}, {2}, {255, 0, 1}};
        for (int[] m : bad) {
            b.tell(3, 0, Plain.row(m));
            Bench.due("not well formed", b.flights(), at);
        }
        b.tell(3, 0, Bench.vote(2, 3, 1, 15, null));
        Bench.due("a vote", b.flights(), at + 2);
        byte[] m = Plain.join(Plain.row(6), Bench.evidence(3, 1, 1, 0, null, Bench.filled(1)));
        b.tell(3, 0, m);
        b.tell(3, 0, Plain.join(Plain.row(6), Bench.evidence(3, 2, 1, 0, Bench.filled(1), Bench.filled(1))));
        b.tell(3, 0, Plain.join(Plain.row(6), Bench.evidence(3, 2, 1, 0, Bench.filled(200), Bench.filled(100))));
        b.tell(3, 0, Plain.join(Plain.row(6), Bench.evidence(3, 4, 1, 0, Bench.filled(1), Bench.filled(2))));
        b.tell(3, 0, Plain.join(Plain.row(6), Bench.evidence(3, 0, 1, 0, Bench.filled(1), Bench.filled(2))));
        Bench.due("no proof", b.x.state(0, 11), 0);
        b.tell(3, 0, Plain.join(Plain.row(6), Bench.evidence(3, 2, 1, 0, Bench.filled(100), Bench.filled(200))));
        Bench.due("bytes are 0 .. 255", b.x.state(0, 11), 1);
    }

    private static void take() {
        Bench b = new Bench(1, 0);
        b.x.submit(1, 5, 6, 7, 0, 8);
        b.x.crash(0);
        b.x.calm(64, 0);
        b.x.calm(64, 0);
        Bench.due("the others' height", b.x.state(1, 0), 41);
        b.settle();
        b.x.restart(0);
        b.x.submit(0, 0, 1, 5, 0, 1);
        for (int i = 1; i <= 3; i++) {
            b.bring(0, i, 5);
        }
        byte[] m = snapshot(b, 1);
        Bench.due("SNAPSHOT", b.flight(b.find(1, 0, 7)), m);
        b.bring(1, 0, 7);
        Bench.due("one is not enough", b.x.state(0, 0), 1);
        b.bring(2, 0, 7);
        Bench.due("F + 1 of them", b.x.state(0, 0), 41);
        byte[] note = Plain.join(Plain.row(6, 0, 41, 0, 0, 123, 0, 0), m);
        Bench.due("SNAP", b.sector(0, 280, 123), note);
        Bench.due("not there", b.x.sector(0, 282, 0), -1);
        Bench.due("accounts", b.x.balance(0, 5), 985);
        Bench.due("it does not have the blocks", b.x.block(0, 1, 0), -1);
        Bench.due("nor the last one", b.x.block(0, 40, 0), -1);
        Bench.due("the pool stays", b.x.state(0, 6), 1);
        int at = b.flights();
        b.x.crash(3);
        b.x.restart(3);
        b.x.crash(0);
        b.x.restart(0);
        Bench.due("read back", b.x.state(0, 0), 41);
        Bench.due("ASK", b.flight(at + 3), Plain.row(5, 0, 41));
        Bench.due("accounts read back", b.x.account(0, 5, 0), b.x.account(1, 5, 0));
    }

    /** A node takes over who has paid, and goes on with the others from there. */
    private static void takeWhatWasPaid() {
        Bench b = new Bench(2, 1);
        b.x.crash(0);
        b.tell(6, 2, Plain.join(Plain.row(6), Bench.evidence(6, 2, 1, 0, null, Bench.filled(1))));
        b.x.submit(2, 3, 4, 50, 0, 1);
        for (int i = 0; i < 40 && b.x.state(1, 0) < 8; i++) {
            b.x.calm(1, 1);
        }
        Bench.due("the liar has paid", b.x.paid(1, 6), 3);
        b.x.restart(0);
        for (int i = 0; i < 40 && b.x.state(0, 0) < 8; i++) {
            b.x.calm(1, 1);
        }
        Bench.due("a SNAPSHOT was taken", b.x.sector(0, 280, 0) >>> 56, 6);
        Bench.due("it knows who has paid", b.x.paid(0, 6) & 1, 1);
        Bench.due("and what is left", b.x.balance(0, 6), b.x.balance(1, 6));
        Bench.due("and how many payments there were", b.x.account(0, 3, 0) >> 24 & 65535, 1);
        int height = b.x.state(0, 0);
        b.x.calm(30, 1);
        Bench.due("it goes on", b.x.state(0, 0) > height, true);
        Bench.due("with the same blocks", b.x.block(0, height, 20), b.x.block(1, height, 20));
    }

    /** Whoever has not the block answers with a SNAPSHOT; two that are not the same bytes take nothing. */
    private static void takeNeedsTheSame() {
        Bench b = new Bench(2, 2);
        byte[] m = Plain.join(Plain.row(7, 0, 30), new byte[112]);
        for (int k = 0; k < 16; k++) {
            m[35 + 5 * k] = 62;
            m[36 + 5 * k] = (byte) 128;
        }
        b.tell(5, 0, m);
        b.tell(6, 0, m);
        b.tell(6, 0, m);
        Bench.due("F are not enough, of a sender one", b.x.state(0, 0), 1);
        Bench.due("they are not sent on", b.x.state(0, 9), 1);
    }

    private static void decideByDecided() {
        Bench b = new Bench(1, 0);
        b.x.crash(0);
        b.until(2, 2);
        b.until(3, 2);
        b.until(1, 2);
        b.x.restart(0);
        for (int i = 1; i <= 3; i++) {
            b.bring(0, i, 5);
        }
        byte[] m = Plain.join(Plain.row(4), FIRST);
        Bench.due("DECIDED", b.flight(b.find(1, 0, 4)), m);
        int k = b.find(3, 0, 4);
        b.x.copy(k);
        b.x.deliver(k);
        b.x.deliver(b.find(3, 0, 4));
        Bench.due("two of one sender are one", b.x.state(0, 0), 1);
        b.bring(1, 0, 4);
        Bench.due("F + 1", b.x.state(0, 0), 2);
        Bench.due("the block", b.block(0, 1, 101), FIRST);
        Bench.due("it begins", b.x.state(0, 7), 1);
    }

    private static void decideNeedsValid() {
        byte[] poor = Bench.firstBlock(3, NONE, List.of(Bench.payment(0, 1, 1000, 0, 1)));
        byte[] rich = Bench.firstBlock(3, NONE, List.of(Bench.payment(0, 1, 999, 0, 1)));
        byte[] late = Bench.firstBlock(3, NONE, List.of(Bench.payment(0, 1, 9, 1, 1)));
        byte[] twice = Bench.firstBlock(3, List.of(Bench.evidence(3, 2, 1, 0, null, Bench.filled(1)),
            Bench.evidence(3, 3, 1, 0, null, Bench.filled(1))), NONE);
        byte[] ahead = rich.clone();
        ahead[3] = 1;
        byte[] root = rich.clone();
        root[35] ^= 1;
        byte[] once = Bench.firstBlock(0, List.of(Bench.evidence(3, 3, 1, 0, null, Bench.filled(1))),
            List.of(Bench.payment(0, 1, 999, 0, 1), Bench.payment(0, 1, 1, 1, 1), Bench.payment(3, 1, 899, 0, 1)));
        byte[] fined = Bench.firstBlock(0, List.of(Bench.evidence(3, 3, 1, 0, null, Bench.filled(1))),
            List.of(Bench.payment(0, 1, 999, 0, 1), Bench.payment(3, 1, 900, 0, 1)));
        byte[][] blocks = {poor, late, twice, ahead, root, fined, once, rich};
        for (int i = 0; i < blocks.length; i++) {
            Bench b = new Bench(1, 1);
            // round 2 is the liar's: 0 goes there with F + 1 signers
            for (int node = 0; node < 3; node++) {
                b.tell(3, node, Bench.proposal(3, 1, 2, 255, blocks[i]));
            }
            roundTwo(b);
            // its answer to ASK tells how it voted
            int at = b.flights();
            b.tell(3, 0, Plain.row(5, 0, 1));
            byte[] vote = null;
            for (int k = at; k < b.flights(); k++) {
                byte[] m = b.flight(k);
                vote = m[0] == 2 && m[1] == 0 && m[4] == 2 ? m : vote;
            }
            Bench.due("block " + i, vote, Bench.vote(2, 0, 1, 2, i >= blocks.length - 2 ? blocks[i] : null));
        }
    }

    /** All that is honest comes to round 2 of height 1 with nothing locked. */
    private static void roundTwo(Bench b) {
        for (int i = 0; i < 60 && b.x.state(0, 1) < 2; i++) {
            b.x.tick();
            for (int k = b.flights() - 1; k >= 0; k--) {
                int kind = (int) (b.x.bytes(k, 0) >>> 56);
                if (kind == 2 || kind == 3) {
                    b.x.deliver(k);
                }
            }
        }
        Bench.due("round", b.x.state(0, 1), 2);
    }

    private static void skip() {
        Bench b = new Bench(2, 2);
        b.tell(5, 0, Bench.vote(2, 5, 1, 9, null));
        b.tell(6, 0, Bench.vote(3, 6, 1, 9, null));
        b.tell(5, 0, Bench.vote(3, 5, 1, 9, null));
        b.tell(5, 0, Bench.vote(3, 5, 1, 12, null));
        Bench.due("F signers are not enough", b.x.state(0, 1), 0);
        Bench c = new Bench(1, 1);
        roundOneOf(c, 2);
        c.tell(3, 0, Bench.vote(2, 3, 1, 2, null));
        c.tell(3, 0, Bench.vote(3, 3, 1, 2, null));
        c.tell(3, 0, Bench.vote(3, 3, 1, 1, null));
        Bench.due("one signer", c.x.state(0, 1), 0);
        int notes = c.x.state(0, 9);
        c.bringOwn(2, 0, 1, 1);
        Bench.due("two signers: round 1", c.x.state(0, 1), 1);
        Bench.due("ROUND and PREVOTE", c.x.state(0, 9), notes + 2);
        Bench.due("timer 0", c.x.state(0, 7), 1);
        Bench.due("step", c.x.state(0, 2), 1);
    }

    /** A node comes to round 1 of height 1, by PREVOTEs and PRECOMMITs for none. */
    private static void roundOneOf(Bench b, int node) {
        for (int i = 0; i < 4; i++) {
            b.x.tick();
        }
        b.tell(3, node, Bench.vote(2, 3, 1, 0, null));
        b.bringOwn(0, node, 2, 0);
        b.tell(3, 0, Bench.vote(2, 3, 1, 0, null));
        b.bringOwn(node, 0, 2, 0);
        b.tell(3, node, Bench.vote(3, 3, 1, 0, null));
        b.bringOwn(0, node, 3, 0);
        for (int i = 0; i < 4; i++) {
            b.x.tick();
        }
        Bench.due("round", b.x.state(node, 1), 1);
    }

    /** What node 2 proposes in round 1 of height 1, where node 0 is locked. */
    private static final byte[] OTHER = Bench.firstBlock(2, NONE, List.of(Bench.payment(0, 1, 5, 0, 1)));

    /** Node 0 locks a block in round 0, and says no to another one in round 1, which node 1 locks there. */
    private static Bench twoLocks() {
        Bench b = new Bench(1, 1);
        b.bring(1, 0, 1);
        b.bring(1, 0, 2);
        b.tell(3, 0, Bench.vote(2, 3, 1, 0, FIRST));
        Bench.due("locked", b.x.state(0, 3), 0);
        b.x.submit(2, 0, 1, 5, 0, 1);
        for (int i = 0; i < 4; i++) {
            b.x.tick();
        }
        b.tell(3, 2, Bench.vote(2, 3, 1, 0, null));
        b.bring(1, 2, 2);
        for (int i = 0; i < 4; i++) {
            b.x.tick();
        }
        b.tell(3, 2, Bench.vote(3, 3, 1, 0, null));
        b.bring(0, 2, 3);
        for (int i = 0; i < 4; i++) {
            b.x.tick();
        }
        Bench.due("2 is in round 1", b.x.state(2, 1), 1);
        int k = b.find(2, 0, 1);
        Bench.due("its proposal", b.flight(k), Bench.proposal(2, 1, 1, 255, OTHER));
        b.tell(3, 0, Bench.vote(2, 3, 1, 1, OTHER));
        b.x.deliver(k);
        Bench.due("0 is in round 1", b.x.state(0, 1), 1);
        Bench.due("for none", b.flight(latest(b, 0, 2)), Bench.vote(2, 0, 1, 1, null));
        b.tell(3, 1, Bench.vote(2, 3, 1, 1, OTHER));
        b.bringOwn(2, 1, 1, 1);
        Bench.due("1 is not locked", b.flight(latest(b, 1, 2)), Bench.vote(2, 1, 1, 1, OTHER));
        b.bringOwn(2, 1, 2, 1);
        Bench.due("1 is locked with round 1", b.x.state(1, 3), 1);
        return b;
    }

    /** Node 0 says yes to another block than that of its lock with Q PREVOTEs of a later round. */
    private static void lockAndUnlock() {
        Bench b = twoLocks();
        b.bringOwn(2, 0, 2, 1);
        Bench.due("Q PREVOTEs whatever for", b.x.state(0, 7) & 2, 2);
        for (int i = 0; i < 5; i++) {
            b.x.tick();
        }
        Bench.due("PRECOMMIT for none", b.flight(latest(b, 0, 3)), Bench.vote(3, 0, 1, 1, null));
        int notes = b.x.state(0, 9);
        b.bringOwn(1, 0, 2, 1);
        Bench.due("VALID", b.x.state(0, 9), notes + 1);
        Bench.due("still locked", b.x.state(0, 3), 0);
        Bench.due("its valid block's round", b.x.state(0, 4), 1);
        Bench.due("its valid block is the new one", b.block(0, -1, OTHER.length), OTHER);
        Bench.due("locked is the old one", b.block(0, 0, 101), FIRST);
        b.tell(3, 0, Bench.vote(3, 3, 1, 1, null));
        b.bringOwn(1, 0, 3, 1);
        for (int i = 0; i < 5; i++) {
            b.x.tick();
        }
        Bench.due("0 is in round 2", b.x.state(0, 1), 2);
        b.tell(3, 0, Bench.proposal(3, 1, 2, 1, OTHER));
        Bench.due("for the block of a later round than its lock", b.flight(latest(b, 0, 2)),
            Bench.vote(2, 0, 1, 2, OTHER));
    }

    /** Node 1 is locked with round 1: Q PREVOTEs of round 0 for another block do not move it. */
    private static void lockedLater() {
        Bench b = twoLocks();
        b.bringOwn(0, 1, 2, 0);
        b.tell(3, 1, Bench.vote(2, 3, 1, 0, FIRST));
        b.bringOwn(2, 1, 3, 0);
        b.tell(3, 1, Bench.vote(3, 3, 1, 1, null));
        for (int i = 0; i < 5; i++) {
            b.x.tick();
        }
        b.tell(3, 0, Bench.vote(2, 3, 1, 2, null));
        b.bringOwn(2, 0, 2, 1);
        for (int i = 0; i < 5; i++) {
            b.x.tick();
        }
        b.bringOwn(0, 1, 3, 1);
        for (int i = 0; i < 5; i++) {
            b.x.tick();
        }
        Bench.due("1 is in round 2", b.x.state(1, 1), 2);
        b.tell(3, 1, Bench.proposal(3, 1, 2, 0, FIRST));
        Bench.due("for none", b.flight(latest(b, 1, 2)), Bench.vote(2, 1, 1, 2, null));
    }

    /** A node that is locked with a later round says yes to just that block, whatever its valid round. */
    private static void lockedThis() {
        Bench b = new Bench(1, 1);
        b.bring(1, 0, 1);
        b.tell(3, 0, Bench.vote(2, 3, 1, 0, FIRST));
        b.bringOwn(1, 0, 2, 0);
        for (int i = 0; i < 4; i++) {
            b.x.tick();
        }
        // 2 is for none, but learns of Q PREVOTEs for the block: it is valid for it
        b.tell(3, 2, Bench.vote(2, 3, 1, 0, FIRST));
        b.bringOwn(1, 2, 2, 0);
        for (int i = 0; i < 4; i++) {
            b.x.tick();
        }
        b.bringOwn(1, 2, 1, 0);
        b.bringOwn(0, 2, 2, 0);
        Bench.due("valid, but not locked", b.x.state(2, 4) * 10 + b.x.state(2, 3), -1);
        b.tell(3, 2, Bench.vote(3, 3, 1, 0, null));
        b.bringOwn(0, 2, 3, 0);
        for (int i = 0; i < 4; i++) {
            b.x.tick();
        }
        byte[] again = Bench.proposal(2, 1, 1, 0, FIRST);
        Bench.due("its valid block once more", b.flight(latest(b, 2, 1)), again);
        b.tell(3, 0, Bench.vote(2, 3, 1, 1, FIRST));
        b.bringOwn(2, 0, 1, 1);
        Bench.due("for it", b.flight(latest(b, 0, 2)), Bench.vote(2, 0, 1, 1, FIRST));
        b.bringOwn(2, 0, 2, 1);
        Bench.due("locked with round 1", b.x.state(0, 3), 1);
        b.tell(3, 0, Bench.vote(3, 3, 1, 1, null));
        b.tell(3, 1, Bench.vote(3, 3, 1, 1, null));
        b.bringOwn(2, 1, 1, 1);
        b.bringOwn(0, 1, 2, 0);
        b.tell(3, 1, Bench.vote(2, 3, 1, 0, FIRST));
        b.tell(3, 1, Bench.vote(2, 3, 1, 1, null));
        b.bringOwn(2, 1, 2, 1);
        for (int i = 0; i < 5; i++) {
            b.x.tick();
        }
        b.bringOwn(1, 0, 3, 1);
        for (int i = 0; i < 5; i++) {
            b.x.tick();
        }
        Bench.due("0 is in round 2", b.x.state(0, 1), 2);
        b.tell(3, 0, Bench.proposal(3, 1, 2, 0, FIRST));
        Bench.due("for it", b.flight(latest(b, 0, 2)), Bench.vote(2, 0, 1, 2, FIRST));
    }

    /** A block is judged by its own chain, whatever was of an earlier height's round. */
    private static void judgedAnew() {
        Bench b = new Bench(1, 1);
        b.until(0, 3);
        b.settle();
        byte[] block = Bench.block(3, 3, Bench.idOf(b.block(0, 2, 101)), b.accountsRoot(0), NONE,
            List.of(Bench.payment(0, 1, 5, 7, 1)));
        b.tell(3, 0, Bench.proposal(3, 3, 0, 255, block));
        Bench.due("for none", b.flight(latest(b, 0, 2)), Bench.vote(2, 0, 3, 0, null));
        block = Bench.block(3, 3, Bench.idOf(b.block(0, 2, 101)), b.accountsRoot(0), NONE,
            List.of(Bench.payment(0, 1, 5, 0, 1)));
        b.tell(3, 1, Bench.proposal(3, 3, 0, 255, block));
        Bench.due("for it", b.flight(latest(b, 1, 2)), Bench.vote(2, 1, 3, 0, block));
    }

    private static int latest(Bench b, int from, int kind) {
        for (int k = b.flights() - 1; k >= 0; k--) {
            byte[] m = b.flight(k);
            if (m[0] == kind && m[1] == from) {
                return k;
            }
        }
        return -1;
    }

    /** A block has proofs of two signers, by signers, and what can be paid, in the pool's order. */
    private static void build() {
        Bench b = new Bench(3, 3);
        byte[][] e = new byte[10][];
        for (int s : new int[] {9, 7, 8}) {
            e[s] = Bench.evidence(s, 2, 1, 0, null, Bench.filled(s));
            b.tell(9, 2, Plain.join(Plain.row(6), e[s]));
        }
        byte[][] p = {Bench.payment(0, 1, 1000, 0, 1), Bench.payment(0, 1, 999, 0, 1), Bench.payment(0, 1, 1, 1, 1),
            Bench.payment(1, 0, 1000, 0, 9), Bench.payment(1, 0, 1000, 1, 9), Bench.payment(7, 3, 900, 0, 1),
            Bench.payment(7, 3, 899, 0, 1), Bench.payment(2, 3, 1000, 0, 9), Bench.payment(0, 1, 2, 1, 1)};
        for (byte[] one : p) {
            Bench.due("submit", b.x.submit(2, one[0], one[1], Plain.num(one, 2, 2), Plain.num(one, 4, 2), one[6]), true);
        }
        b.untilByOwn(2, 2);
        int k = latest(b, 2, 1);
        byte[] want = Bench.block(2, 2, Bench.idOf(FIRST), Plain.part(FIRST, 35, 67), List.of(e[7], e[8]),
            List.of(p[1], p[3], p[6], p[7], p[8]));
        Bench.due("the block", b.flight(k), Bench.proposal(2, 2, 0, 255, want));
    }

    /** Behind round 15 none begins. */
    private static void lastRound() {
        Bench b = new Bench(1, 0);
        b.x.crash(0);
        b.x.crash(1);
        int ended = 0;
        for (int i = 0; i < 20; i++) {
            ended += b.x.tick();
        }
        Bench.due("timer 0 of the two that are up", ended, 2);
        Bench.due("without Q nothing goes on", b.x.state(2, 1), 0);
        Pair pair = new Pair("rounds", 1, 1);
        for (int i = 0; i < 900; i++) {
            pair.call("tick");
            for (int k = (int) pair.call("count", 0) - 1; k >= 0; k--) {
                long kind = pair.call("bytes", k, 0) >>> 56;
                if (kind == 2 || kind == 3) {
                    pair.call("deliver", k);
                }
            }
            if (pair.call("count", 0) > 700) {
                while (pair.call("count", 0) > 0) {
                    pair.call("crash", (int) pair.call("flying", 0, 1));
                    pair.call("deliver", 0);
                }
                for (int node = 0; node < 3; node++) {
                    pair.call("restart", node);
                }
            }
        }
        pair.compare(new java.util.Random(1));
        Bench.due("answers that differ", pair.wrong, 0);
        int top = 0;
        for (int node = 0; node < 3; node++) {
            top = Math.max(top, (int) pair.call("state", node, 1));
        }
        Bench.due("a round", top, 15);
    }
}
