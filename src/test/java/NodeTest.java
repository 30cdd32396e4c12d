import java.util.List;

/** Promises 15 to 20: nodes that fall and come again, and what they tell of themselves. */
public final class NodeTest {
    private static final List<byte[]> NONE = List.of();

    public static void main(String[] args) {
        promise15Crash();
        promise16Cut();
        promise16Replaced();
        promise16TwoSectors();
        promise16WholeSector();
        promise16EveryNote();
        promise17Restart();
        promise17Refused();
        promise17Locked();
        promise17Chain();
        promise17Snap();
        promise18State();
        promise18AtTheEnd();
        promise19Block();
        promise20Paid();
        Bench.finish("NodeTest");
    }

    private static void promise15Crash() {
        Bench b = new Bench(1, 1);
        b.x.submit(0, 0, 1, 5, 0, 1);
        b.tell(3, 0, Plain.join(Plain.row(6), Bench.evidence(3, 2, 1, 0, null, Bench.filled(1))));
        b.bring(1, 0, 1);
        Bench.due("pool, timers, proofs", b.x.state(0, 6) * 100 + b.x.state(0, 7) * 10 + b.x.state(0, 11), 111);
        int flights = b.flights();
        int notes = b.x.state(0, 9);
        Bench.due("crash", b.x.crash(0), true);
        Bench.due("up", b.x.state(0, 5), 0);
        Bench.due("pool, timers, proofs", b.x.state(0, 6) * 100 + b.x.state(0, 7) * 10 + b.x.state(0, 11), 0);
        Bench.due("its proof is lost", b.x.paid(0, 3), 0);
        Bench.due("the step stays", b.x.state(0, 2), 1);
        Bench.due("what it sent stays", b.x.state(0, 8), 1);
        Bench.due("notes", b.x.state(0, 9), notes);
        Bench.due("what it sent flies on", b.flights(), flights);
        Bench.due("it is down", b.x.crash(0), false);
        for (int node : new int[] {3, 4, -1, Integer.MIN_VALUE, Integer.MAX_VALUE}) {
            Bench.due("crash(" + node + ")", b.x.crash(node), false);
        }
    }

    private static void promise16Cut() {
        Bench b = new Bench(1, 1);
        for (int[] r : new int[][] {{0, -1}, {0, 1001}, {3, 1}, {4, 1}, {-1, 1}, {0, Integer.MIN_VALUE}}) {
            Bench.due("cut(" + r[0] + ", " + r[1] + ")", b.x.cut(r[0], r[1]), false);
        }
        Bench.due("cut", b.x.cut(0, 1), true);
        int flights = b.flights();
        b.bring(1, 0, 1);
        Bench.due("it fell", b.x.state(0, 5), 0);
        Bench.due("what it sent on before flies", b.flights(), flights - 1 + 2);
        Bench.due("step", b.x.state(0, 2), 0);
        Bench.due("sent", b.x.state(0, 8), 0);
        Bench.due("whole notes", b.x.state(0, 9), 1);
        Bench.due("sectors", b.x.state(0, 10), 1);
        Bench.due("it can't be read", b.x.sector(0, 82, 0), -1);
        Bench.due("restart", b.x.restart(0), true);
        for (int i = 0; i < 4; i++) {
            b.x.tick();
        }
        // over 23 of 47 bytes of a PREVOTE for a block stand 15 of one for none
        byte[] old = Plain.join(Plain.row(3, 0, 1, 1, 0, 47, 0, 0, 1),
            Bench.vote(2, 0, 1, 0, Bench.firstBlock(1, NONE, NONE)));
        byte[] now = Plain.join(Plain.row(3, 0, 1, 1, 0, 15, 0, 0, 1), Bench.vote(2, 0, 1, 0, null));
        byte[] want = Plain.join(now, Plain.part(old, 15, 23), new byte[512 - 23]);
        Bench.due("written again", b.sector(0, 82, 512), want);
        Bench.due("it is over", b.x.state(0, 5), 1);
    }

    private static void promise16Replaced() {
        Bench b = new Bench(1, 1);
        b.x.cut(0, 1);
        Bench.due("none is", b.x.cut(0, 0), true);
        b.x.cut(2, 1);
        Bench.due("another one is", b.x.cut(2, 2), true);
        b.bring(1, 0, 1);
        b.bring(1, 2, 1);
        Bench.due("nobody fell", b.x.state(0, 5) + b.x.state(2, 5), 2);
        b.x.crash(2);
        b.x.restart(2);
        for (int i = 0; i < 4; i++) {
            b.x.tick();
        }
        // 2 comes again in step prevote: its timer 1 makes its next note, a restart has left the cut
        Bench.due("the second note is cut", b.x.state(2, 5), 0);
        Bench.due("cut of one that is down", b.x.cut(2, 1), true);
        b.x.restart(2);
        Bench.due("a restart notes nothing", b.x.state(2, 5), 1);
        for (int i = 0; i < 4; i++) {
            b.x.tick();
        }
        Bench.due("then it is cut", b.x.state(2, 5), 0);
        Bench.due("a thousand", b.x.cut(1, 1000), true);
    }

    /** A block with 64 payments needs two sectors: the first one is written, the second one is cut. */
    private static void promise16TwoSectors() {
        Bench b = new Bench(1, 0);
        for (int i = 0; i < 66; i++) {
            b.x.submit(2, i % 8, 9, 1, i / 8, 1);
        }
        b.until(3, 2);
        int size = 101 + 64 * 7;
        int sectors = b.x.state(3, 10);
        int notes = b.x.state(3, 9);
        b.x.cut(3, 2);
        for (int i = 0; i < 3000 && b.x.state(3, 5) == 1; i++) {
            b.x.deliver(0);
        }
        // the PREVOTE is whole, LOCK is cut: number 2, in sectors 84 and 85
        Bench.due("whole notes", b.x.state(3, 9), notes + 1);
        Bench.due("sectors", b.x.state(3, 10), sectors + 2);
        Bench.due("its first sector", b.x.sector(3, 84, 0), Plain.eight(Plain.row(4, 0, 2, 2, (size + 9) >> 8,
            size + 9, 0, 0), 0));
        Bench.due("its second sector", b.x.sector(3, 85, 0), -1);
        Bench.due("not locked", b.x.state(3, 3), -1);
        Bench.due("height", b.x.state(3, 0), 2);
        b.until(0, 3);
        Bench.due("a block of two sectors", b.block(0, 2, size), b.block(2, 2, size));
        byte[] note = Plain.join(Plain.row(1, 0, 2, 0, (size + 8) >> 8, size + 8, 0, 0), b.block(2, 2, size));
        Bench.due("its first sector", b.sector(0, 2, 512), Plain.part(note, 0, 512));
        Bench.due("its second sector", b.sector(0, 3, 512), Plain.part(note, 512, 1024));
        Bench.due("the root of its parts", b.x.block(0, 2, 67), Plain.eight(Plain.rootOf(Plain.parts(
            b.block(0, 2, size))), 0));
        Bench.due("payments that were not in it", b.x.state(2, 6), 2);
    }

    /** A note that fills a sector to its last byte needs no second one. */
    private static void promise16WholeSector() {
        Bench b = new Bench(1, 1);
        b.tell(3, 2, Plain.join(Plain.row(6), Bench.evidence(3, 3, 1, 0, null, Bench.filled(1))));
        for (int i = 0; i < 52; i++) {
            b.x.submit(2, i % 8, 9, 1, i / 8, 1);
        }
        b.until(0, 2);
        // PREVOTE, LOCK, PRECOMMIT come first
        b.x.cut(0, 4);
        int sectors = b.x.state(0, 10);
        for (int i = 0; i < 3000 && b.x.state(0, 5) == 1; i++) {
            b.x.deliver(0);
        }
        Bench.due("LOCK has two sectors", b.x.state(0, 10), sectors + 4);
        Bench.due("CHAIN was cut", b.x.sector(0, 2, 0), -1);
        Bench.due("behind it nothing was written", b.x.sector(0, 3, 0), -1);
        b.x.restart(0);
        sectors = b.x.state(0, 10);
        int notes = b.x.state(0, 9);
        for (int i = 0; i < 3000 && b.x.state(0, 0) == 2; i++) {
            b.x.deliver(0);
        }
        byte[] block = b.block(0, 2, 101 + 39 + 52 * 7);
        Bench.due("the size it tells", b.x.sector(0, 2, 0), Plain.eight(Plain.row(1, 0, 2, 0, 2, 0, 0, 0), 0));
        Bench.due("one sector", b.sector(0, 2, 512), Plain.join(b.sector(0, 2, 8), block));
        Bench.due("its root", Plain.part(block, 67, 99), Plain.rootOf(Plain.parts(block)));
        Bench.due("no second one", b.x.sector(0, 3, 0), -1);
        Bench.due("CHAIN and ROUND", (b.x.state(0, 10) - sectors) * 10 + b.x.state(0, 9) - notes, 22);
    }

    /** Whatever note is cut, a node that comes again has what a node has that fell right ahead of that note. */
    private static void promise16EveryNote() {
        for (int k = 1; k <= 40; k++) {
            Pair pair = new Pair("cut " + k, 1, 0);
            pair.call("submit", 2, 0, 1, 5, 0, 1);
            pair.call("cut", 3, k);
            for (int i = 0; i < 500 && pair.call("state", 3, 5) == 1; i++) {
                pair.call("deliver", 0);
            }
            pair.compare(new java.util.Random(k));
            pair.call("restart", 3);
            pair.compare(new java.util.Random(k));
            for (int i = 0; i < 200; i++) {
                pair.call("deliver", 0);
            }
            pair.compare(new java.util.Random(k));
            Bench.due("answers that differ", pair.wrong, 0);
        }
    }

    private static void promise17Restart() {
        Bench b = new Bench(2, 2);
        b.x.crash(3);
        Bench.due("timers", b.x.state(3, 7), 0);
        int flights = b.flights();
        b.x.tick();
        Bench.due("restart", b.x.restart(3), true);
        Bench.due("up", b.x.state(3, 5), 1);
        Bench.due("the timer of its step", b.x.state(3, 7), 1);
        Bench.due("ASK to all others", b.flights(), flights + 6);
        for (int i = 0; i < 6; i++) {
            Bench.due("sender", b.x.flying(flights + i, 0), 3);
            Bench.due("receiver", b.x.flying(flights + i, 1), i < 3 ? i : i + 1);
            Bench.due("ASK", b.flight(flights + i), Plain.row(5, 0, 1));
        }
        for (int i = 0; i < 3; i++) {
            Bench.due("later than the latest tick", b.x.tick() > 0 && b.x.state(3, 7) == 0, false);
        }
        b.x.tick();
        Bench.due("its timer ended", b.x.state(3, 2), 1);
        b.x.crash(3);
        b.x.restart(3);
        Bench.due("the timer of step prevote", b.x.state(3, 7), 2);
        Bench.due("it holds what it sent itself", b.x.state(3, 8), 1);
        flights = b.flights();
        b.tell(5, 3, Plain.row(5, 0, 1));
        Bench.due("and answers with it", b.flights(), flights + 1);
        Bench.due("its own PREVOTE", b.flight(flights), Bench.vote(2, 3, 1, 0, null));
    }

    private static void promise17Refused() {
        Bench b = new Bench(1, 1);
        int flights = b.flights();
        for (int node : new int[] {0, 2, 3, 4, -1, Integer.MAX_VALUE}) {
            Bench.due("restart(" + node + ")", b.x.restart(node), false);
        }
        Bench.due("what flies", b.flights(), flights);
        b.x.crash(1);
        Bench.due("restart", b.x.restart(1), true);
        Bench.due("its PROPOSAL was noted: it is in step prevote", b.x.state(1, 2), 1);
        Bench.due("and did not propose twice", b.x.state(1, 8), 2);
        promise17NoProposal();
    }

    /** Of height 2, the proposer's note ROUND is cut, or that of its PROPOSAL: that round has none. */
    private static void promise17NoProposal() {
        for (int k = 5; k <= 6; k++) {
            Bench b = new Bench(1, 0);
            // PREVOTE, LOCK, PRECOMMIT, CHAIN come first
            b.x.cut(2, k);
            for (int i = 0; i < 500 && b.x.state(2, 5) == 1; i++) {
                b.x.deliver(0);
            }
            Bench.due("height 2", b.x.state(2, 0), 2);
            b.x.cut(2, 1);
            b.x.restart(2);
            Bench.due("nothing is noted", b.x.state(2, 5), 1);
            Bench.due("nothing of this height", b.x.state(2, 8), 0);
            Bench.due("it does not propose", b.find(2, 0, 1) < 0 || b.flight(b.find(2, 0, 1))[3] == 1, true);
            Bench.due("its timer", b.x.state(2, 7), 1);
            Bench.due("round and step", b.x.state(2, 1) + b.x.state(2, 2), 0);
        }
    }

    private static void promise17Locked() {
        Bench b = new Bench(1, 1);
        b.bring(1, 0, 1);
        b.bring(1, 2, 1);
        b.bring(1, 0, 2);
        b.x.cut(0, 2);
        b.bring(2, 0, 2);
        // LOCK is whole, the PRECOMMIT is cut
        Bench.due("it fell", b.x.state(0, 5), 0);
        Bench.due("locked", b.x.state(0, 3), 0);
        Bench.due("valid", b.x.state(0, 4), 0);
        Bench.due("step", b.x.state(0, 2), 1);
        Bench.due("none was sent", b.find(0, -1, 3), -1);
        b.x.restart(0);
        int notes = b.x.state(0, 9);
        Bench.due("locked", b.x.state(0, 3), 0);
        b.tell(3, 0, Bench.vote(2, 3, 1, 0, Bench.firstBlock(1, NONE, NONE)));
        b.bring(0, 1, 5);
        b.bring(1, 0, 1);
        b.bring(1, 0, 2);
        Bench.due("Q PREVOTEs again: PRECOMMIT without another LOCK", b.x.state(0, 9), notes + 1);
        Bench.due("step", b.x.state(0, 2), 2);
        Bench.due("its PRECOMMIT", b.flight(b.find(0, 1, 3)),
            Bench.vote(3, 0, 1, 0, Bench.firstBlock(1, NONE, NONE)));
    }

    private static void promise17Chain() {
        Bench b = new Bench(1, 0);
        b.x.submit(0, 0, 1, 100, 0, 1);
        b.until(3, 4);
        int balance = b.x.balance(3, 1);
        long third = b.x.block(3, 3, 3);
        long account = b.x.account(3, 0, 0);
        Bench.due("the payment was made", b.x.balance(3, 0) < 1000, true);
        b.x.crash(3);
        Bench.due("height while down", b.x.state(3, 0), 4);
        b.x.restart(3);
        Bench.due("height", b.x.state(3, 0), 4);
        Bench.due("balance", b.x.balance(3, 1), balance);
        Bench.due("block", b.x.block(3, 3, 3), third);
        Bench.due("account", b.x.account(3, 0, 0), account);
        Bench.due("ASK of its height", b.flight(b.flights() - 1), Plain.row(5, 0, 4));
    }

    /** The newest SNAP that is whole is never written over. */
    private static void promise17Snap() {
        Bench b = new Bench(2, 1);
        b.until(0, 3);
        // it answers with its first block, which it will be asked for no more
        b.tell(6, 0, Plain.row(5, 0, 1));
        Bench.due("DECIDED", b.find(0, 6, 4) >= 0, true);
        int[] places = {280, 282, 280};
        for (int turn = 0; turn < 3; turn++) {
            b.x.crash(0);
            int height = b.x.state(0, 0);
            for (int i = 0; i < 200 && b.x.state(1, 0) < height + 7; i++) {
                b.x.calm(1, 0);
            }
            b.settle();
            b.x.restart(0);
            b.tell(6, 0, Bench.vote(2, 6, height + 1, 3, null));
            b.x.cut(0, turn == 1 ? 1 : 0);
            takeFrom(b);
            if (turn == 1) {
                Bench.due("SNAP was cut", b.x.state(0, 5), 0);
                Bench.due("its height", b.x.state(0, 0), height);
                Bench.due("the older one is whole", b.x.sector(0, 280, 0) >>> 56, 6);
                Bench.due("the newer one can't be read", b.x.sector(0, 282, 0), -1);
                b.x.restart(0);
                takeFrom(b);
            }
            int now = b.x.state(0, 0);
            Bench.due("the others' height", now, b.x.state(1, 0));
            Bench.due("SNAP", b.x.sector(0, places[turn], 0), Plain.eight(Plain.row(6, 0, now, 0, 0, 123, 0, 0), 0));
            answersBehindTake(b, now);
        }
    }

    /** Whoever is asked answers node 0, whatever else flies. */
    private static void takeFrom(Bench b) {
        for (int i = 1; i <= 4; i++) {
            b.bring(0, i, 5);
        }
        for (int i = 1; i <= 4 && b.x.state(0, 5) == 1; i++) {
            b.bring(i, 0, 7);
        }
    }

    private static void answersBehindTake(Bench b, int height) {
        int at = b.flights();
        for (int h = height - 4; h < height; h++) {
            b.tell(6, 0, Plain.row(5, 0, h));
            Bench.due("it has no block of these", b.flight(b.flights() - 1)[0], 7);
        }
        Bench.due("four answers", b.flights(), at + 4);
        b.tell(6, 0, Plain.row(5, 0, height));
        for (int k = at + 4; k < b.flights(); k++) {
            Bench.due("what was held for another height is gone", b.flight(k)[3], height);
        }
    }

    private static void promise18State() {
        Bench b = new Bench(1, 1);
        for (int[] r : new int[][] {{3, 0}, {4, 0}, {-1, 0}, {0, -1}, {0, 12}, {0, Integer.MAX_VALUE},
            {Integer.MIN_VALUE, 5}}) {
            Bench.due("state(" + r[0] + ", " + r[1] + ")", b.x.state(r[0], r[1]), -1);
        }
        b.bring(1, 0, 1);
        b.bring(1, 2, 1);
        b.bring(1, 0, 2);
        b.x.submit(0, 0, 1, 5, 0, 1);
        b.tell(3, 0, Plain.join(Plain.row(6), Bench.evidence(3, 2, 1, 0, null, Bench.filled(1))));
        b.bring(2, 0, 2);
        // ROUND, SENT, LOCK, SENT
        int[] want = {1, 0, 2, 0, 0, 1, 1, 1, 2, 4, 4, 1};
        for (int what = 0; what < want.length; what++) {
            Bench.due("state(0, " + what + ")", b.x.state(0, what), want[what]);
        }
        b.tell(3, 2, Bench.vote(2, 3, 1, 0, null));
        b.bring(1, 2, 2);
        Bench.due("timers 0 and 1", b.x.state(2, 7), 3);
        Bench.due("its own PREVOTE is the third: no lock", b.x.state(2, 3), -1);
    }

    private static void promise18AtTheEnd() {
        Bench b = new Bench(1, 0);
        b.until(0, 40);
        b.x.crash(0);
        b.x.restart(0);
        Bench.due("a timer at height 40", b.x.state(0, 7) > 0, true);
        b.settle();
        for (int node = 0; node < 4; node++) {
            int[] want = {41, 0, 0, -1, -1, 1, 0, 0, 0};
            for (int what = 0; what < want.length; what++) {
                Bench.due("at the end, state(" + node + ", " + what + ")", b.x.state(node, what), want[what]);
            }
        }
        Bench.due("no timers", b.x.tick(), 0);
        Bench.due("a payment still comes", b.x.submit(0, 0, 1, 5, 0, 1), true);
        b.x.crash(0);
        b.x.restart(0);
        Bench.due("no timer at 41", b.x.state(0, 7), 0);
        Bench.due("ASK of 41", b.flight(b.flights() - 1), Plain.row(5, 0, 41));
    }

    private static void promise19Block() {
        Bench b = new Bench(1, 1);
        byte[] block = Bench.firstBlock(1, NONE, NONE);
        Bench.due("not locked", b.x.block(0, 0, 0), -1);
        Bench.due("not valid", b.x.block(0, -1, 0), -1);
        b.bring(1, 0, 1);
        b.bring(1, 2, 1);
        b.bring(1, 0, 2);
        b.bring(2, 0, 2);
        for (int i = 0; i < 120; i++) {
            Bench.due("locked", b.x.block(0, 0, i), Plain.eight(block, i));
            Bench.due("valid", b.x.block(0, -1, i), Plain.eight(block, i));
        }
        Bench.due("far behind", b.x.block(0, 0, Integer.MAX_VALUE), 0);
        Bench.due("not decided", b.x.block(0, 1, 0), -1);
        b.until(0, 2);
        for (int i = 0; i < 120; i++) {
            Bench.due("decided", b.x.block(0, 1, i), Plain.eight(block, i));
        }
        Bench.due("far behind", b.x.block(0, 1, Integer.MAX_VALUE), 0);
        Bench.due("no longer locked", b.x.block(0, 0, 0), -1);
        Bench.due("no longer valid", b.x.block(0, -1, 0), -1);
        int[][] refused = {{0, 1, -1}, {0, 2, 0}, {0, 41, 0}, {0, -2, 0}, {3, 1, 0}, {-1, 1, 0},
            {0, Integer.MAX_VALUE, 0}, {0, Integer.MIN_VALUE, 0}, {0, 1, Integer.MIN_VALUE}};
        for (int[] r : refused) {
            Bench.due("block(" + r[0] + ", " + r[1] + ", " + r[2] + ")", b.x.block(r[0], r[1], r[2]), -1);
        }
    }

    private static void promise20Paid() {
        Bench b = new Bench(1, 1);
        for (int[] r : new int[][] {{3, 0}, {-1, 0}, {0, 4}, {0, -1}, {0, Integer.MAX_VALUE}}) {
            Bench.due("paid(" + r[0] + ", " + r[1] + ")", b.x.paid(r[0], r[1]), -1);
        }
        byte[] evidence = Bench.evidence(3, 3, 41, 15, Bench.filled(1), Bench.filled(255));
        Bench.due("not yet", b.x.paid(2, 3), 0);
        b.tell(3, 2, Plain.join(Plain.row(6), evidence));
        Bench.due("a proof", b.x.paid(2, 3), 2);
        Bench.due("none of another", b.x.paid(2, 1), 0);
        Bench.due("proofs", b.x.state(2, 11), 1);
        b.until(2, 3);
        Bench.due("it has paid", b.x.paid(2, 3), 3);
        Bench.due("behind the chain of 2", b.x.balance(2, 3), 900);
        Bench.due("to the maker", b.x.balance(2, 2), 1100);
        Bench.due("the block", b.block(2, 2, 172), Bench.block(2, 2, Bench.idOf(b.block(2, 1, 101)),
            Plain.part(Bench.firstBlock(0, NONE, NONE), 35, 67), List.of(evidence), NONE));
        b.x.crash(2);
        Bench.due("the proof is lost, but not that it paid", b.x.paid(2, 3), 1);
    }
}
