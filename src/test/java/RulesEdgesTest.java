import java.util.ArrayList;
import java.util.List;

/** The boundary cases of the rules: F + 1 and Q, one less and as many; rounds, locks, timers, what is built. */
public final class RulesEdgesTest {
    private static final List<byte[]> NONE = List.of();
    private static final byte[] FIRST = Bench.firstBlock(1, NONE, NONE);
    private static final byte[] LOW = Bench.filled(7);

    public static void main(String[] args) {
        for (int f = 1; f <= 4; f++) {
            takeNeeds(f, 0);
            takeNeeds(f, 2);
            decideNeedsDecided(f, 0);
            decideNeedsDecided(f, 3);
            decideNeedsPrecommits(f);
            skipNeeds(f);
            lockNeeds(f);
            precommitNoneNeeds(f);
            timerOneNeeds(f);
            timerTwoNeeds(f);
        }
        takeIsNoted();
        takeTheNext();
        takeTheEnd();
        skipGreatest();
        skipAboveOnly();
        skipCountsZero();
        validRoundNone();
        validRoundBelow();
        validRoundNeeds();
        validRoundOne();
        lockedOther();
        lockedThis();
        lockOnce();
        validNoted();
        validCut();
        proposedAgain();
        timersOnce();
        timersOfRounds();
        behindFifteen();
        buildProofs();
        buildPayments();
        buildAnew();
        poolBehindBlocks();
        firstHasAhead();
        Play.finish("RulesEdgesTest");
    }

    // ---- F + 1 and Q

    /** Nodes of which f - 1 are liars: the honest ones but for node 0 are just Q. */
    private static Play nearly(int f) {
        return new Play(f, f - 1);
    }

    /** The first f + 1 nodes that are not one that was down, who asks. */
    private static int[] answerers(int f, int down) {
        int[] nodes = new int[f + 1];
        for (int i = 0; i <= f; i++) {
            nodes[i] = i < down ? i : i + 1;
        }
        return nodes;
    }

    /** A node was down while the others went on, to a height at least, the same for all that will answer it. */
    private static Play leftBehind(int f, int down, int least) {
        Play p = nearly(f);
        p.due(1, "crash", down);
        p.due(1, "submit", down == 2 ? 3 : 2, 0, 15, 700, 0, 9);
        boolean ready = false;
        for (int i = 0; i < 200 && !ready; i++) {
            p.call("calm", 1, 1);
            int height = p.state(answerers(f, down)[0], 0);
            ready = height >= least;
            for (int node : answerers(f, down)) {
                ready &= p.state(node, 0) == height;
            }
        }
        p.due(1, "restart", down);
        p.due(1, "state", down, 0);
        return p;
    }

    private static void takeNeeds(int f, int down) {
        Play.sentence("TAKE: F + 1 SNAPSHOTs that are the same bytes");
        Play p = leftBehind(f, down, 6);
        int[] others = answerers(f, down);
        int height = p.state(others[0], 0);
        for (int node : others) {
            p.bring(down, node, 5);
        }
        Play q = p.fork();
        for (int node : others) {
            p.due(1, "state", down, 0);
            p.bring(node, down, 7);
        }
        p.due(height, "state", down, 0);
        p.due(-1, "block", down, height - 1, 0);
        for (int k = 0; k < 16; k++) {
            p.check("account " + k, p.call("account", down, k, 0), p.call("account", others[0], k, 0));
        }
        p.due(1, "state", down, 7);
        Play.sentence("and what is held are lost");
        for (int i = 0; i < others.length; i++) {
            if (i == others.length - 1) {
                q.due(1, "crash", down);
                q.due(1, "restart", down);
            }
            q.bring(others[i], down, 7);
        }
        q.due(1, "state", down, 0);
    }

    private static void decideNeedsDecided(int f, int down) {
        Play.sentence("DECIDE: a valid block of its height with F + 1 DECIDED of just it");
        Play p = leftBehind(f, down, 3);
        int[] others = answerers(f, down);
        Play next = p.fork();
        for (int node : others) {
            p.bring(down, node, 5);
        }
        Play q = p.fork();
        for (int node : others) {
            p.due(1, "state", down, 0);
            p.bring(node, down, 4);
        }
        p.due(2, "state", down, 0);
        p.check("the block", p.read(101, "block", down, 1), FIRST);
        // CHAIN, and round 0 of height 2 has begun
        p.due(3, "state", down, 9);
        p.due(1, "state", down, 7);
        Play.sentence("of each sender the first DECIDED of its height");
        // those of the height before are gone: it has the next block by DECIDED, too
        for (int i = 0; i < 20 && next.state(down, 0) < 3; i++) {
            next.call("calm", 1, 1);
        }
        next.check("the second block", next.call("block", down, 2, 0) >>> 48, 2);
        Play.sentence("and what is held are lost");
        for (int i = 0; i < others.length; i++) {
            if (i == others.length - 1) {
                q.due(1, "crash", down);
                q.due(1, "restart", down);
            }
            q.bring(others[i], down, 4);
        }
        q.due(1, "state", down, 0);
    }

    private static void decideNeedsPrecommits(int f) {
        Play.sentence("or a valid block of which it holds the PROPOSAL of a round and Q PRECOMMITs of that round for it");
        Play p = allPrecommitted(f);
        int q = 2 * f + 1;
        Play late = p.fork();
        p.bringOwn(1, 0, 1, 1, 0);
        for (int node = 1; node <= q; node++) {
            p.due(1, "state", 0, 0);
            p.bringOwn(node, 0, 3, 1, 0);
        }
        p.due(2, "state", 0, 0);
        // the PROPOSAL may come last, and the node has not voted then
        for (int node = 1; node <= q; node++) {
            late.bringOwn(node, 0, 3, 1, 0);
        }
        late.due(1, "state", 0, 0);
        late.bringOwn(1, 0, 1, 1, 0);
        late.due(2, "state", 0, 0);
        late.due(0, "state", 0, 8);
    }

    /** All but node 0 hold Q PREVOTEs; their PRECOMMITs for FIRST, and the PROPOSAL, fly to node 0 as answers. */
    private static Play allPrecommitted(int f) {
        Play p = nearly(f);
        p.due(1, "crash", 0);
        p.call("calm", 3, 1);
        p.due(1, "restart", 0);
        for (int node = 1; node <= 2 * f + 1; node++) {
            p.due(2, "state", node, 2);
            p.bring(0, node, 5);
        }
        return p;
    }

    private static void skipNeeds(int f) {
        Play.sentence("SKIP: of a round above its own there are messages held of F + 1 signers (PROPOSAL, PREVOTE or"
            + " PRECOMMIT, each signer once)");
        Play p = nearly(f);
        p.due(1, "crash", 0);
        int round = 0;
        for (int i = 0; i < 60 && round == 0; i++) {
            // nobody gets the PROPOSAL in time
            p.call(i < 4 ? "tick" : "calm", i < 4 ? new int[0] : new int[] {1, 0});
            round = p.state(2, 1);
        }
        p.due(1, "state", 2, 1);
        p.due(1, "restart", 0);
        p.due(0, "state", 0, 1);
        for (int liar = 2 * f + 2; liar <= 3 * f; liar++) {
            p.tell(liar, 0, Bench.vote(2, liar, 1, 1, null));
            p.tell(liar, 0, Bench.vote(3, liar, 1, 1, null));
        }
        // node 2 is the proposer: its PROPOSAL and its PREVOTE are of one signer
        p.bringOwn(2, 0, 1, 1, 1);
        p.bringOwn(2, 0, 2, 1, 1);
        p.due(0, "state", 0, 1);
        p.bringOwn(2, 1, 1, 1, 1);
        p.bringOwn(1, 0, 2, 1, 1);
        p.due(1, "state", 0, 1);
        // it prevotes; of four nodes that is the third one
        p.due(f == 1 ? 2 : 1, "state", 0, 2);
    }

    private static void lockNeeds(int f) {
        Play.sentence("it holds the PROPOSAL of its round, whose block is valid, and Q PREVOTEs of it for that");
        Play p = new Play(f, f);
        p.bringOwn(1, 0, 1, 1, 0);
        p.bringOwn(1, 0, 2, 1, 0);
        // its own, the proposer's and the liars' are F + 2, and F - 1 more are Q
        for (int liar = 2 * f + 1; liar <= 3 * f; liar++) {
            if (f == 1) {
                p.due(1, "state", 0, 2);
                p.due(-1, "state", 0, 3);
            }
            p.tell(liar, 0, Bench.vote(2, liar, 1, 0, FIRST));
        }
        for (int node = 2; node <= f; node++) {
            p.due(1, "state", 0, 2);
            p.due(-1, "state", 0, 3);
            p.due(-1, "state", 0, 4);
            p.bringOwn(1, node, 1, 1, 0);
            p.bringOwn(node, 0, 2, 1, 0);
        }
        p.due(2, "state", 0, 2);
        p.due(0, "state", 0, 3);
        p.due(0, "state", 0, 4);
        p.check("locked", p.read(101, "block", 0, 0), FIRST);
        p.check("valid", p.read(101, "block", 0, -1), FIRST);
    }

    private static void precommitNoneNeeds(int f) {
        Play.sentence("6 in step prevote, Q PREVOTEs of its round for none: it sends a PRECOMMIT for none");
        Play p = new Play(f, f);
        p.ticks(4);
        p.due(1, "state", 0, 2);
        int votes = 1;
        for (int liar = 2 * f + 1; liar <= 3 * f; liar++, votes++) {
            p.tell(liar, 0, Bench.vote(2, liar, 1, 0, null));
        }
        for (int node = 2; votes < 2 * f; node++, votes++) {
            p.bringOwn(node, 0, 2, 1, 0);
        }
        p.due(1, "state", 0, 2);
        // one that is for a block makes Q whatever for, but not for none
        p.bringOwn(1, 0, 2, 1, 0);
        p.due(1, "state", 0, 2);
        p.due(2, "state", 0, 7);
        p.bringOwn(f + 1, 0, 2, 1, 0);
        p.due(2, "state", 0, 2);
        p.check("for none", p.flight(p.findOwn(0, 1, 3, 1, 0)), Bench.vote(3, 0, 1, 0, null));
    }

    private static void timerOneNeeds(int f) {
        Play.sentence("7 in step prevote, not yet in this round: Q PREVOTEs of its round, whatever for: timer 1 is set");
        Play p = new Play(f, f);
        p.ticks(4);
        p.due(0, "state", 0, 7);
        p.bringOwn(1, 0, 2, 1, 0);
        int votes = 2;
        for (int liar = 2 * f + 1; liar <= 3 * f; liar++, votes++) {
            if (votes < 2 * f + 1) {
                p.due(0, "state", 0, 7);
            }
            p.tell(liar, 0, Bench.vote(2, liar, 1, 0, liar == 3 * f ? null : FIRST));
        }
        for (int node = 2; votes < 2 * f + 1; node++, votes++) {
            p.due(0, "state", 0, 7);
            p.bringOwn(node, 0, 2, 1, 0);
        }
        p.due(2, "state", 0, 7);
        p.due(1, "state", 0, 2);
        // in step propose it is not set
        Play q = new Play(f, f);
        q.ticks(1);
        votes = 0;
        for (int liar = 2 * f + 1; liar <= 3 * f; liar++) {
            q.tell(liar, 0, Bench.vote(2, liar, 1, 0, null));
        }
        q.bringOwn(1, 0, 2, 1, 0);
        for (int node = 2; node <= 2 * f; node++) {
            q.bringOwn(1, node, 1, 1, 0);
            q.bringOwn(node, 0, 2, 1, 0);
        }
        q.due(0, "state", 0, 2);
        q.due(1, "state", 0, 7);
    }

    private static void timerTwoNeeds(int f) {
        Play.sentence("8 not yet in this round: Q PRECOMMITs of its round, whatever for: timer 2 is set");
        Play p = allPrecommitted(f);
        for (int node = 1; node <= 2 * f + 1; node++) {
            p.due(1, "state", 0, 7);
            p.bringOwn(node, 0, 3, 1, 0);
        }
        // without a PROPOSAL nothing is decided; it is in step propose still
        p.due(5, "state", 0, 7);
        p.due(0, "state", 0, 2);
        p.due(1, "state", 0, 0);
    }

    // ---- TAKE and DECIDE

    private static void takeIsNoted() {
        Play.sentence("NOTE SNAP; height, last id and accounts are as it tells; as with DECIDE that height begins (of"
            + " votes and PROPOSALs what was held for it stays, if it was the next one, else none)");
        Play p = Play.behind(1);
        byte[] s = p.flight(p.find(1, 0, 7));
        // of its own height, the next one, and the one that it comes to
        p.tell(6, 0, Bench.vote(2, 6, 1, 3, null));
        p.tell(6, 0, Bench.vote(2, 6, 2, 3, null));
        p.due(1, "pass", 6, 0, p.find(1, 0, 7));
        p.due(7, "deliver", p.flights() - 1);
        p.bring(1, 0, 7);
        long notes = p.call("state", 0, 9);
        p.due(1, "state", 0, 0);
        p.bring(2, 0, 7);
        p.due(6, "state", 0, 0);
        // SNAP and ROUND, in 280 and in 80
        p.due(notes + 2, "state", 0, 9);
        byte[] note = Plain.join(Plain.row(6, 0, 6, 0, 0, 123, 0, 0), s);
        p.check("SNAP", p.read(123, "sector", 0, 280), note);
        p.due(-1, "sector", 0, 281, 0);
        p.check("ROUND", p.read(9, "sector", 0, 80), Plain.row(2, 0, 6, 0, 0, 9, 0, 0, 0));
        int[] want = {6, 0, 0, -1, -1, 1, 0, 1, 0};
        for (int what = 0; what < want.length; what++) {
            p.due(want[what], "state", 0, what);
        }
        int at = p.flights();
        p.tell(6, 0, Plain.row(5, 0, 6));
        p.due(at, "count", 0);
        for (int k = 0; k < 16; k++) {
            p.check("account " + k, Plain.part(p.read(6, "account", 0, k), 1, 6), Plain.part(s, 35 + 5 * k, 40 + 5 * k));
        }
    }

    /** A vote of nodes 0 and 1 comes to the other one, and one of the liar to both. */
    private static void votesAlong(Play p, int kind, int height, int round, byte[] block) {
        p.bringOwn(0, 1, kind, height, round);
        p.bringOwn(1, 0, kind, height, round);
        p.tell(3, 0, Bench.vote(kind, 3, height, round, block));
        p.tell(3, 1, Bench.vote(kind, 3, height, round, block));
    }

    /** Nodes 0 and 1 decide with the liar's votes; node 2, whose round passes without a block, is down. */
    private static void decideAlong(Play p, int height, boolean precommits) {
        int round = 0;
        byte[] block;
        if (height % 4 == 2) {
            p.ticks(4);
            votesAlong(p, 2, height, 0, null);
            votesAlong(p, 3, height, 0, null);
            p.ticks(4);
            round = 1;
        }
        if (height % 4 < 2) {
            int maker = height % 4;
            block = p.flight(p.findOwn(maker, 1 - maker, 1, height, 0));
            p.bringOwn(maker, 1 - maker, 1, height, 0);
        } else {
            byte[] m = Bench.proposal(3, height, round, 255, Bench.block(height, 3, LOW, LOW, NONE, NONE));
            p.put(m);
            p.due(0, "seal", 6, m.length, 0);
            block = Plain.part(p.tape(), 0, m.length);
            p.due(1, "lie", 3, 0, m.length);
            p.due(1, "deliver", p.flights() - 1);
            p.tell(3, 1, block);
        }
        block = Plain.part(block, 6, block.length);
        votesAlong(p, 2, height, round, block);
        if (precommits) {
            votesAlong(p, 3, height, round, block);
            p.due(height + 1, "state", 0, 0);
        } else {
            // node 0 does not hear of the others'
            p.bringOwn(0, 1, 3, height, round);
            p.tell(3, 1, Bench.vote(3, 3, height, round, block));
        }
        p.due(height + 1, "state", 1, 0);
    }

    private static void takeTheNext() {
        Play.sentence("(of votes and PROPOSALs what was held for it stays, if it was the next one, else none)");
        Play p = new Play(1, 1);
        p.due(1, "crash", 2);
        for (int height = 1; height <= 5; height++) {
            decideAlong(p, height, height < 5);
        }
        p.due(5, "state", 0, 0);
        // node 2 comes again, and takes the height 6 of node 1, which is its own to propose
        p.due(1, "restart", 2);
        p.bring(2, 1, 5);
        p.due(1, "pass", 3, 2, p.find(1, 2, 7));
        p.due(7, "deliver", p.flights() - 1);
        p.bring(1, 2, 7);
        p.due(6, "state", 2, 0);
        byte[] m = p.flight(p.findOwn(2, 0, 1, 6, 0));
        // node 0 holds that PROPOSAL of the next height, and asks; node 2 does not have block 5
        p.bringOwn(2, 0, 1, 6, 0);
        p.bringOwn(2, 0, 2, 6, 0);
        p.due(5, "state", 0, 0);
        p.bring(0, 2, 5);
        p.due(1, "pass", 3, 0, p.find(2, 0, 7));
        p.due(7, "deliver", p.flights() - 1);
        p.bring(2, 0, 7);
        p.due(6, "state", 0, 0);
        // it was held, and now is of its height: node 0 prevotes for it
        p.due(1, "state", 0, 2);
        p.check("its PREVOTE", p.flight(p.findOwn(0, 1, 2, 6, 0)),
            Bench.vote(2, 0, 6, 0, Plain.part(m, 6, m.length)));
        int at = p.flights();
        p.tell(3, 0, Plain.row(5, 0, 6));
        p.due(at + 3, "count", 0);
    }

    private static void takeTheEnd() {
        Play.sentence("TAKE at the end: behind height 40 none begins");
        Play p = new Play(2, 1);
        p.due(1, "crash", 0);
        for (int i = 0; i < 20 && (p.state(1, 0) < 41 || p.state(2, 0) < 41 || p.state(3, 0) < 41); i++) {
            p.call("calm", 64, 1);
        }
        p.due(1, "restart", 0);
        for (int node = 1; node <= 3; node++) {
            p.due(1, "state", 0, 0);
            p.bring(0, node, 5);
            p.bring(node, 0, 7);
        }
        int[] want = {41, 0, 0, -1, -1, 1, 0, 0, 0, 2};
        for (int what = 0; what < want.length; what++) {
            p.due(want[what], "state", 0, what);
        }
        p.due(-1, "block", 0, 40, 0);
        p.check("SNAP of 41", p.call("sector", 0, 280, 0), Plain.eight(Plain.row(6, 0, 41, 0, 0, 123, 0, 0), 0));
        p.due(1, "crash", 0);
        p.due(41, "state", 0, 0);
        p.due(1, "restart", 0);
        p.due(0, "state", 0, 7);
        p.check("its accounts", p.call("account", 0, 1, 0), p.call("account", 1, 1, 0));
    }

    // ---- SKIP

    /** Nodes 1 and 2 with the liar are in round 5 of height 2; node 0 is at height 1, and got nothing. */
    private static Play farAhead() {
        Play p = new Play(1, 1);
        p.bringOwn(1, 2, 1, 1, 0);
        for (int kind = 2; kind <= 3; kind++) {
            p.tell(3, 1, Bench.vote(kind, 3, 1, 0, FIRST));
            p.tell(3, 2, Bench.vote(kind, 3, 1, 0, FIRST));
            p.bringOwn(1, 2, kind, 1, 0);
            p.bringOwn(2, 1, kind, 1, 0);
        }
        p.due(2, "state", 1, 0);
        p.due(2, "state", 2, 0);
        for (int round = 0; round < 5; round++) {
            p.ticks(4 + round);
            for (int kind = 2; kind <= 3; kind++) {
                p.tell(3, 1, Bench.vote(kind, 3, 2, round, null));
                p.tell(3, 2, Bench.vote(kind, 3, 2, round, null));
                p.bringOwn(1, 2, kind, 2, round);
                p.bringOwn(2, 1, kind, 2, round);
                if (p.state(1, 7) == 2 || p.state(2, 7) == 2) {
                    // one of them is for its own block: timer 1
                    p.ticks(4 + round);
                }
            }
            p.ticks(4 + round);
            p.due(round + 1, "state", 1, 1);
            p.due(round + 1, "state", 2, 1);
        }
        p.ticks(9);
        return p;
    }

    private static void skipGreatest() {
        Play.sentence("the greatest such round begins; what was held for it is held of its height now");
        Play p = farAhead();
        p.due(1, "state", 0, 0);
        for (int round : new int[] {5, 3}) {
            p.bringOwn(1, 0, 2, 2, round);
            p.tell(3, 0, Bench.vote(3, 3, 2, round, null));
        }
        p.tell(3, 0, Bench.vote(3, 3, 2, 7, null));
        p.due(0, "state", 0, 1);
        p.bringOwn(1, 0, 1, 1, 0);
        p.bringOwn(1, 0, 3, 1, 0);
        p.bringOwn(2, 0, 3, 1, 0);
        p.due(1, "state", 0, 0);
        long notes = p.call("state", 0, 9);
        p.tell(3, 0, Bench.vote(3, 3, 1, 0, FIRST));
        p.due(2, "state", 0, 0);
        p.due(5, "state", 0, 1);
        // CHAIN, ROUND 0, ROUND 5
        p.due(notes + 3, "state", 0, 9);
        p.check("ROUND 5", p.read(9, "sector", 0, 82), Plain.row(2, 0, 2, 1, 0, 9, 0, 0, 5));
    }

    private static void skipAboveOnly() {
        Play.sentence("of a round above its own");
        Play p = new Play(1, 1);
        p.passRound();
        p.due(1, "state", 0, 1);
        long notes = p.call("state", 0, 9);
        // F + 1 signers of its own round, and of one below
        p.tell(3, 0, Bench.vote(2, 3, 1, 1, null));
        p.bringOwn(2, 0, 2, 1, 1);
        p.tell(3, 0, Bench.vote(2, 3, 1, 0, FIRST));
        p.due(1, "state", 0, 1);
        p.due(notes, "state", 0, 9);
    }

    private static void skipCountsZero() {
        Play.sentence("messages held of F + 1 signers; A round BEGINS: timers are gone; timer 0 is set");
        // nodes 0 and 1 come to round 1; node 2 hears of it by node 0 and the liar
        Play p = new Play(1, 1);
        p.ticks(4);
        for (int kind = 2; kind <= 3; kind++) {
            for (int node = 0; node <= 1; node++) {
                p.tell(3, node, Bench.vote(kind, 3, 1, 0, null));
            }
            p.bringOwn(0, 1, kind, 1, 0);
            p.bringOwn(1, 0, kind, 1, 0);
            p.ticks(4);
        }
        p.due(1, "state", 0, 1);
        p.due(0, "state", 2, 1);
        // node 2 has Q PREVOTEs, whatever for: timer 1, which is gone when the round begins
        p.bringOwn(0, 2, 2, 1, 0);
        p.bringOwn(1, 2, 2, 1, 0);
        p.due(2, "state", 2, 7);
        p.ticks(3);
        p.tell(3, 2, Bench.vote(3, 3, 1, 1, null));
        p.due(0, "state", 2, 1);
        p.ticks(1);
        // by then its PRECOMMIT for none is out, and Q PRECOMMITs set timer 2
        p.due(2, "state", 2, 2);
        p.bringOwn(0, 2, 3, 1, 0);
        p.bringOwn(1, 2, 3, 1, 0);
        p.due(4, "state", 2, 7);
        p.ticks(2);
        // round 1 lasts a tick longer: node 0 prevotes for none
        int k = p.findOwn(0, 2, 2, 1, 1);
        p.check("a PREVOTE of round 1", k >= 0, true);
        p.call("deliver", k);
        p.due(1, "state", 2, 1);
        p.due(1, "state", 2, 7);
        p.due(1, "state", 2, 2);
    }

    // ---- PREVOTEs

    /** Round 2 of height 1, which is the liar's; FIRST has two PREVOTEs of round 0, of nodes 1 and 2. */
    private static Play roundTwo() {
        Play p = new Play(1, 1);
        p.bringOwn(1, 2, 1, 1, 0);
        p.passRound();
        p.passRound();
        for (int node = 0; node < 3; node++) {
            p.due(2, "state", node, 1);
            p.due(0, "state", node, 2);
            p.due(-1, "state", node, 3);
            p.due(-1, "state", node, 4);
        }
        return p;
    }

    private static void voted(Play p, int round, byte[] block) {
        int k = p.findOwn(0, 1, 2, 1, round);
        p.check("a PREVOTE of node 0 flies", k >= 0, true);
        p.check("its PREVOTE", p.flight(k), Bench.vote(2, 0, 1, round, block));
    }

    private static void validRoundNone() {
        Play.sentence("3 in step propose, it holds a PROPOSAL of its round with no valid round: it sends a PREVOTE");
        Play p = roundTwo();
        Play q = p.fork();
        q.tell(3, 0, Bench.proposal(3, 1, 2, 255, FIRST));
        voted(q, 2, FIRST);
        q.due(1, "state", 0, 2);
        byte[] bad = Bench.firstBlock(3, NONE, List.of(Bench.payment(0, 1, 1000, 0, 1)));
        q = p.fork();
        q.tell(3, 0, Bench.proposal(3, 1, 2, 255, bad));
        voted(q, 2, null);
        // of another round than its own: it waits
        q = p.fork();
        q.tell(3, 0, Bench.proposal(3, 1, 6, 255, FIRST));
        q.due(0, "state", 0, 2);
    }

    private static void validRoundBelow() {
        Play.sentence("4 likewise with a valid round below its round");
        Play p = roundTwo();
        // 1 and 2 get it with none, and are for it in round 2, as is the liar: Q
        for (int node = 1; node <= 2; node++) {
            p.tell(3, node, Bench.proposal(3, 1, 2, 255, FIRST));
            p.bringOwn(node, 0, 2, 1, 2);
        }
        p.tell(3, 0, Bench.vote(2, 3, 1, 2, FIRST));
        p.due(0, "state", 0, 2);
        for (int valid : new int[] {2, 3, 15}) {
            Play q = p.fork();
            q.tell(3, 0, Bench.proposal(3, 1, 2, valid, FIRST));
            q.due(0, "state", 0, 2);
            // nor is it locked in step propose
            q.due(-1, "state", 0, 3);
            q.due(-1, "state", 0, 4);
        }
        // round 1 is below, but has no PREVOTEs for it
        Play q = p.fork();
        q.tell(3, 0, Bench.proposal(3, 1, 2, 1, FIRST));
        q.due(0, "state", 0, 2);
        q = p.fork();
        q.tell(3, 0, Bench.proposal(3, 1, 2, 255, FIRST));
        q.due(2, "state", 0, 2);
        q.due(2, "state", 0, 3);
    }

    private static void validRoundNeeds() {
        Play.sentence("and Q PREVOTEs of that round for the block: for it, if it is valid");
        Play p = roundTwo();
        p.tell(3, 0, Bench.proposal(3, 1, 2, 0, FIRST));
        p.due(0, "state", 0, 2);
        Play other = p.fork();
        p.tell(3, 0, Bench.vote(2, 3, 1, 0, FIRST));
        voted(p, 2, FIRST);
        p.due(1, "state", 0, 2);
        // one for none does not make it
        other.tell(3, 0, Bench.vote(2, 3, 1, 0, null));
        other.due(0, "state", 0, 2);
        other.ticks(5);
        other.due(0, "state", 0, 2);
        other.ticks(1);
        other.due(1, "state", 0, 2);
        voted(other, 2, null);
    }

    private static void validRoundOne() {
        Play.sentence("Q PREVOTEs of that round for the block");
        // node 2 proposes in round 1, and node 1 is for it in time
        Play p = new Play(1, 1);
        p.passRound();
        byte[] m = p.flight(p.findOwn(2, 1, 1, 1, 1));
        byte[] block = Plain.part(m, 6, m.length);
        p.bringOwn(2, 1, 1, 1, 1);
        p.passRound();
        p.due(2, "state", 0, 1);
        // Q PREVOTEs of round 1 are not of round 0
        for (int valid = 0; valid <= 1; valid++) {
            for (int round = 0; round <= 1; round++) {
                Play q = p.fork();
                q.tell(3, 0, Bench.proposal(3, 1, 2, valid, block));
                q.due(0, "state", 0, 2);
                q.tell(3, 0, Bench.vote(2, 3, 1, round, block));
                q.due(valid == 1 && round == 1 ? 1 : 0, "state", 0, 2);
                if (valid == 1 && round == 1) {
                    voted(q, 2, block);
                }
            }
        }
    }

    /** Node 0 has locked FIRST in round 0, and comes to round 2, which is the liar's. */
    private static Play lockedInTwo() {
        Play p = new Play(1, 1);
        p.bringOwn(1, 0, 1, 1, 0);
        p.bringOwn(1, 0, 2, 1, 0);
        p.tell(3, 0, Bench.vote(2, 3, 1, 0, FIRST));
        p.due(0, "state", 0, 3);
        for (int round = 0; round <= 1; round++) {
            // PROPOSALs come to nobody: only votes do
            p.ticks(4 + round);
            votesOf(p, 2, round);
            p.ticks(4 + round);
            votesOf(p, 3, round);
            p.ticks(4 + round);
        }
        p.due(2, "state", 0, 1);
        p.due(0, "state", 0, 2);
        p.due(0, "state", 0, 3);
        return p;
    }

    private static void votesOf(Play p, int kind, int round) {
        for (int from = 0; from < 3; from++) {
            for (int to = 0; to < 3; to++) {
                int k = from == to ? -1 : p.findOwn(from, to, kind, 1, round);
                if (k >= 0) {
                    p.call("deliver", k);
                }
            }
        }
        for (int to = 0; to < 3; to++) {
            p.tell(3, to, Bench.vote(kind, 3, 1, round, round == 0 && kind == 2 && to == 0 ? FIRST : null));
        }
    }

    private static void lockedOther() {
        Play.sentence("for the block, if that is valid, and nothing is locked, or this; else for none");
        Play p = lockedInTwo();
        byte[] other = FIRST.clone();
        other[2] = 3;
        Play q = p.fork();
        q.tell(3, 0, Bench.proposal(3, 1, 2, 255, other));
        voted(q, 2, null);
        q = p.fork();
        q.tell(3, 0, Bench.proposal(3, 1, 2, 255, FIRST));
        voted(q, 2, FIRST);
        // 1 has nothing locked
        q = p.fork();
        q.due(-1, "state", 1, 3);
        q.tell(3, 1, Bench.proposal(3, 1, 2, 255, other));
        q.check("of 1", q.flight(q.findOwn(1, 0, 2, 1, 2)), Bench.vote(2, 1, 1, 2, other));
    }

    private static void lockedThis() {
        Play.sentence("for it, if it is valid, and the locked round is not above that, or this is locked");
        Play p = lockedInTwo();
        // its locked round is 0: that is not above 0
        p.tell(3, 0, Bench.proposal(3, 1, 2, 0, FIRST));
        voted(p, 2, FIRST);
    }

    // ---- LOCK, VALID

    private static void lockOnce() {
        Play.sentence("5 not in step propose, and not yet in this round; if it is not locked with this round already, NOTE"
            + " LOCK; then it sends a PRECOMMIT for it; step precommit");
        Play p = new Play(1, 1);
        p.bringOwn(1, 0, 1, 1, 0);
        p.bringOwn(1, 0, 2, 1, 0);
        long notes = p.call("state", 0, 9);
        p.tell(3, 0, Bench.vote(2, 3, 1, 0, FIRST));
        // LOCK, SENT
        p.due(notes + 2, "state", 0, 9);
        p.due(2, "state", 0, 8);
        p.bringOwn(1, 2, 1, 1, 0);
        p.bringOwn(2, 0, 2, 1, 0);
        p.due(notes + 2, "state", 0, 9);
        p.check("LOCK", p.read(110, "sector", 0, 84),
            Plain.join(Plain.row(4, 0, 1, 2, 0, 110, 0, 0, 0), FIRST));
        // LOCK was whole, SENT was cut: behind the restart there is no other LOCK
        Play q = new Play(1, 1);
        q.bringOwn(1, 0, 1, 1, 0);
        q.bringOwn(1, 2, 1, 1, 0);
        q.bringOwn(1, 0, 2, 1, 0);
        q.due(1, "cut", 0, 2);
        q.tell(3, 0, Bench.vote(2, 3, 1, 0, FIRST));
        q.due(0, "state", 0, 5);
        q.due(0, "state", 0, 3);
        q.due(1, "restart", 0);
        notes = q.call("state", 0, 9);
        q.tell(3, 0, Bench.vote(2, 3, 1, 0, FIRST));
        q.bringOwn(2, 0, 2, 1, 0);
        q.due(notes, "state", 0, 9);
        q.bring(0, 1, 5);
        q.bringOwn(1, 0, 1, 1, 0);
        q.due(notes + 1, "state", 0, 9);
        q.due(2, "state", 0, 2);
    }

    private static void validNoted() {
        Play.sentence("In step precommit, if it is not that with this round already, NOTE VALID: it is its valid block,"
            + " with this round");
        // node 0 precommits for none by timer 1, then learns of Q PREVOTEs for FIRST
        Play p = new Play(1, 1);
        p.bringOwn(1, 2, 1, 1, 0);
        p.ticks(4);
        p.bringOwn(1, 0, 2, 1, 0);
        p.bringOwn(2, 0, 2, 1, 0);
        p.due(2, "state", 0, 7);
        p.ticks(4);
        p.due(2, "state", 0, 2);
        long notes = p.call("state", 0, 9);
        p.bringOwn(1, 0, 1, 1, 0);
        p.due(-1, "state", 0, 4);
        p.due(notes, "state", 0, 9);
        p.tell(3, 0, Bench.vote(2, 3, 1, 0, FIRST));
        p.due(0, "state", 0, 4);
        p.due(-1, "state", 0, 3);
        p.due(notes + 1, "state", 0, 9);
        p.due(-1, "block", 0, 0, 0);
        p.check("valid", p.read(101, "block", 0, -1), FIRST);
        p.check("VALID", p.read(110, "sector", 0, 86), Plain.join(Plain.row(5, 0, 1, 3, 0, 110, 0, 0, 0), FIRST));
        // a restart: it is that with this round already
        p.due(1, "crash", 0);
        p.due(0, "state", 0, 4);
        p.due(1, "restart", 0);
        p.bring(0, 1, 5);
        p.bring(0, 2, 5);
        for (int i = 0; i < 9 && p.find(1, 0, -1) >= 0; i++) {
            p.call("deliver", p.find(1, 0, -1));
        }
        p.bringOwn(2, 0, 2, 1, 0);
        p.tell(3, 0, Bench.vote(2, 3, 1, 0, FIRST));
        p.due(notes + 1, "state", 0, 9);
        p.due(0, "state", 0, 4);
    }

    private static void validCut() {
        Play.sentence("NOTE VALID: it is its valid block, with this round");
        Play p = new Play(1, 1);
        p.bringOwn(1, 2, 1, 1, 0);
        p.ticks(4);
        p.bringOwn(1, 0, 2, 1, 0);
        p.bringOwn(2, 0, 2, 1, 0);
        p.ticks(4);
        p.bringOwn(1, 0, 1, 1, 0);
        p.due(1, "cut", 0, 1);
        p.tell(3, 0, Bench.vote(2, 3, 1, 0, FIRST));
        p.due(0, "state", 0, 5);
        p.due(-1, "state", 0, 4);
        p.due(-1, "block", 0, -1, 0);
        p.due(-1, "sector", 0, 86, 0);
        p.due(2, "state", 0, 2);
    }

    private static void proposedAgain() {
        Play.sentence("if it is the proposer, it sends a PROPOSAL: of its valid block, with that round, if it has one");
        // node 0 locks FIRST in round 2, which is the liar's, and is the proposer of round 3
        Play p = new Play(1, 1);
        p.passRound();
        p.passRound();
        p.tell(3, 0, Bench.proposal(3, 1, 2, 255, FIRST));
        p.tell(3, 1, Bench.proposal(3, 1, 2, 255, FIRST));
        p.bringOwn(1, 0, 2, 1, 2);
        p.tell(3, 0, Bench.vote(2, 3, 1, 2, FIRST));
        p.due(2, "state", 0, 3);
        for (int node = 1; node <= 2; node++) {
            p.tell(3, node, Bench.vote(2, 3, 1, 2, null));
        }
        p.due(1, "submit", 0, 0, 1, 5, 0, 1);
        p.ticks(6);
        p.bringOwn(2, 1, 2, 1, 2);
        p.bringOwn(1, 2, 2, 1, 2);
        p.ticks(6);
        p.tell(3, 0, Bench.vote(3, 3, 1, 2, null));
        p.bringOwn(1, 0, 3, 1, 2);
        p.ticks(6);
        p.due(3, "state", 0, 1);
        p.check("its PROPOSAL", p.flight(p.findOwn(0, 1, 1, 1, 3)), Bench.proposal(0, 1, 3, 2, FIRST));
        // it holds Q PREVOTEs of round 2 for it: rule 4
        p.due(1, "state", 0, 2);
        voted(p, 3, FIRST);
        // others' votes for it count
        p.tell(3, 0, Bench.vote(2, 3, 1, 3, FIRST));
        p.due(2, "state", 0, 3);
        p.tell(3, 1, Bench.vote(2, 3, 1, 2, FIRST));
        p.due(1, "state", 0, 2);
    }

    // ---- timers

    private static void timersOnce() {
        Play.sentence("not yet in this round: timer 1 is set");
        Play p = new Play(1, 1);
        p.ticks(4);
        p.bringOwn(1, 0, 2, 1, 0);
        p.bringOwn(2, 0, 2, 1, 0);
        p.due(2, "state", 0, 7);
        p.ticks(3);
        // a fourth one does not set it anew
        p.tell(3, 0, Bench.vote(2, 3, 1, 0, FIRST));
        p.due(2, "state", 0, 7);
        p.due(1, "tick");
        p.due(2, "state", 0, 2);
        Play.sentence("It is gone then, also without any effect");
        p.due(0, "state", 0, 7);
        Play.sentence("8 not yet in this round: timer 2 is set");
        Play q = allPrecommitted(1);
        q.bringOwn(1, 0, 3, 1, 0);
        q.bringOwn(2, 0, 3, 1, 0);
        q.bringOwn(3, 0, 3, 1, 0);
        q.due(5, "state", 0, 7);
        q.ticks(3);
        q.due(5, "state", 0, 7);
        q.call("tick");
        // timer 0: a PREVOTE for none; timer 2: round 1 begins, and timers are gone but for its own
        q.due(1, "state", 0, 1);
        q.due(1, "state", 0, 7);
        q.due(1, "state", 0, 8);
    }

    private static void timersOfRounds() {
        Play.sentence("A TIMER that is set ends 4 ticks and as many as the round's number later than the latest tick (the"
            + " one that goes on counts)");
        Play p = new Play(1, 1);
        for (int round = 0; round <= 15; round++) {
            p.due(round, "state", 0, 1);
            p.due(1, "state", 0, 7);
            Play q = p.fork();
            q.ticks(3 + round);
            // the proposer has prevoted
            q.due((round + 1) % 4 == 0 ? 1 : 0, "state", 0, 2);
            q.due(1, "state", 0, 7);
            q.call("tick");
            q.due(1, "state", 0, 2);
            q.due(0, "state", 0, 7);
            if (round < 15) {
                p.passRound();
            }
        }
    }

    private static void behindFifteen() {
        Play.sentence("Timer 2: the next round begins (behind 15 none)");
        Play p = new Play(1, 1);
        for (int round = 0; round < 15; round++) {
            p.passRound();
        }
        p.due(15, "state", 0, 1);
        p.due(0, "state", 1, 2);
        p.due(-1, "state", 0, 3);
        // it is node 0's: it has proposed; all wait for timer 0, then 1, then 2
        p.call("calm", 9, 9);
        p.ticks(10);
        p.call("calm", 19, 0);
        p.due(2, "state", 1, 2);
        p.call("calm", 1, 0);
        p.due(4, "state", 1, 7);
        long notes = p.call("state", 1, 9);
        p.ticks(17);
        p.due(4, "state", 1, 7);
        p.due(3, "tick");
        for (int node = 0; node < 3; node++) {
            p.due(15, "state", node, 1);
            p.due(2, "state", node, 2);
            p.due(0, "state", node, 7);
        }
        p.due(notes, "state", 1, 9);
        p.due(0, "calm", 64, 0);
        p.due(15, "state", 1, 1);
    }

    // ---- what is built

    private static void buildProofs() {
        Play.sentence("with the first two of its proofs, by signers, whose signers have not paid");
        for (int n = 0; n <= 3; n++) {
            Play p = new Play(3, 3);
            List<byte[]> due = new ArrayList<>();
            for (int signer = 9; signer > 9 - n; signer--) {
                p.tell(9, 2, Plain.join(Plain.row(6), Bench.evidence(signer, 2, 1, 0, null, LOW)));
                due.add(0, Bench.evidence(signer, 2, 1, 0, null, LOW));
            }
            p.until(2, 2);
            byte[] want = Bench.block(2, 2, Bench.idOf(FIRST), Plain.part(FIRST, 35, 67),
                due.subList(0, Math.min(2, n)), NONE);
            p.check("the PROPOSAL with " + n, p.flight(p.findOwn(2, 0, 1, 2, 0)), Bench.proposal(2, 2, 0, 255, want));
            if (n == 3) {
                // two have paid then: the next block has the third one, the one behind it none
                p.until(3, 3);
                byte[] m = p.flight(p.findOwn(3, 0, 1, 3, 0));
                p.check("evidences", m[6 + 100], 1);
                p.check("the third one", Plain.part(m, 107, 146), due.get(2));
                p.until(4, 4);
                p.check("no more", p.flight(p.findOwn(4, 0, 1, 4, 0))[6 + 100], 0);
            }
        }
    }

    private static void buildPayments() {
        Play.sentence("and the first 64 payments of its pool each of which can be made behind those parts before it");
        for (int n : new int[] {0, 1, 63, 64, 65, 80}) {
            Play p = new Play(1, 1);
            List<byte[]> due = new ArrayList<>();
            for (int i = 0; i < n; i++) {
                p.due(1, "submit", 2, i % 16, (i + 1) % 16, 1 + i % 3, i / 16, 1 + i % 9);
                due.add(Bench.payment(i % 16, (i + 1) % 16, 1 + i % 3, i / 16, 1 + i % 9));
            }
            List<byte[]> first = due.subList(0, Math.min(64, n));
            p.until(2, 2);
            byte[] want = Bench.block(2, 2, Bench.idOf(FIRST), Plain.part(FIRST, 35, 67), NONE, first);
            p.check("the PROPOSAL with " + n, p.flight(p.findOwn(2, 0, 1, 2, 0)), Bench.proposal(2, 2, 0, 255, want));
        }
        // what can't be made is left out, and does not count
        Play p = new Play(1, 1);
        List<byte[]> due = new ArrayList<>();
        int[][] pool = {{0, 1, 1000, 0, 1, 0}, {0, 1, 5, 1, 1, 0}, {0, 1, 999, 0, 1, 1}, {0, 1, 5, 1, 1, 0},
            {1, 0, 1000, 0, 9, 1}, {1, 0, 1000, 1, 9, 0}, {1, 0, 990, 1, 1, 0}, {0, 2, 1000, 1, 1, 0},
            {0, 2, 999, 1, 1, 1}};
        for (int[] c : pool) {
            if (p.call("submit", 2, c[0], c[1], c[2], c[3], c[4]) == 1 && c[5] == 1) {
                due.add(Bench.payment(c[0], c[1], c[2], c[3], c[4]));
            }
        }
        for (int i = 0; i < 65; i++) {
            p.due(1, "submit", 2, 3, 4, 1, i, 1);
            if (due.size() < 64) {
                due.add(Bench.payment(3, 4, 1, i, 1));
            }
        }
        p.until(2, 2);
        byte[] want = Bench.block(2, 2, Bench.idOf(FIRST), Plain.part(FIRST, 35, 67), NONE, due);
        p.check("the PROPOSAL", p.flight(p.findOwn(2, 0, 1, 2, 0)), Bench.proposal(2, 2, 0, 255, want));
    }

    private static void buildAnew() {
        Play.sentence("each of which can be made behind those parts before it");
        // a block that node 0 has looked at, but that is not decided, takes nothing from what it builds
        Play p = new Play(1, 1);
        p.passRound();
        p.passRound();
        byte[] other = Bench.firstBlock(3, NONE, List.of(Bench.payment(0, 1, 999, 0, 1)));
        p.tell(3, 0, Bench.proposal(3, 1, 2, 255, other));
        voted(p, 2, other);
        p.due(1, "submit", 0, 0, 1, 500, 0, 1);
        p.passRound();
        p.due(3, "state", 0, 1);
        byte[] own = Bench.firstBlock(0, NONE, List.of(Bench.payment(0, 1, 500, 0, 1)));
        p.check("its PROPOSAL", p.flight(p.findOwn(0, 1, 1, 1, 3)), Bench.proposal(0, 1, 3, 255, own));
    }

    private static void poolBehindBlocks() {
        Play.sentence("payments in it leave the pool (others stay, whatever comes of them)");
        Play p = new Play(1, 1);
        // two of one nonce: one is made, the other one never can be
        p.due(1, "submit", 2, 0, 1, 5, 0, 1);
        p.due(1, "submit", 2, 0, 1, 6, 0, 1);
        p.due(1, "submit", 0, 0, 1, 5, 0, 1);
        p.due(1, "submit", 0, 7, 8, 1000, 0, 9);
        p.due(2, "state", 2, 6);
        p.due(2, "state", 0, 6);
        p.until(0, 3);
        // 0 has heard of 6 of nonce 0, which stays, as its own that can't be made
        p.due(2, "state", 0, 6);
        p.due(2, "state", 2, 6);
        p.refused(0, "submit", 0, 7, 8, 1000, 0, 9);
        p.refused(0, "submit", 0, 0, 1, 6, 0, 1);
        // what was decided is in the pool no more: it may come again
        p.fork().due(1, "submit", 0, 0, 1, 5, 0, 1);
    }

    private static void firstHasAhead() {
        Play.sentence("the id of the chain's last block (or ZERO)");
        Play p = roundTwo();
        for (int at : new int[] {3, 34}) {
            byte[] block = FIRST.clone();
            block[at] = 1;
            Play q = p.fork();
            q.tell(3, 0, Bench.proposal(3, 1, 2, 255, block));
            voted(q, 2, null);
        }
    }
}
