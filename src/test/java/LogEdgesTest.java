import java.util.List;

/** The boundary cases of THE LOG: notes of one and of two sectors, notes that are cut, and how a node comes again. */
public final class LogEdgesTest {
    private static final List<byte[]> NONE = List.of();
    private static final byte[] FIRST = Bench.firstBlock(1, NONE, NONE);
    private static final byte[] LOW = Bench.filled(7);
    private static final byte[] HIGH = Bench.filled(8);

    public static void main(String[] args) {
        atFirst();
        noteBytes();
        chainPlaces();
        notePlaces();
        justOneSector();
        justTwoSectors();
        twoSectors();
        behindTheEnd();
        halfOfOne();
        halfOfMore();
        cutInSecond();
        cutIsNotDone();
        cutCounts();
        cutChain();
        cutRoundOfNext();
        snapPlaces();
        snapCutFirst();
        fallLoses();
        againAsNotesSay();
        againHoldsItsOwn();
        againWithoutNotes();
        againSetsTimer();
        againNotBeen();
        againWithSnap();
        againRules();
        againAtForty();
        cutBehindLaterRound();
        fallLosesOfZero();
        Play.finish("LogEdgesTest");
    }

    private static byte[] note(int kind, int height, int number, byte[]... told) {
        byte[] all = Plain.join(told);
        int size = all.length + 8;
        return Plain.join(Plain.row(kind, height >> 8, height, number, size >> 8, size, 0, 0), all);
    }

    private static void sector(Play p, int node, int s, byte[] want) {
        p.check("sector " + s + " of " + node + " can be read", p.call("sector", node, s, 0) != -1, true);
        p.check("sector " + s + " of " + node, p.read(512, "sector", node, s),
            java.util.Arrays.copyOf(want, 512));
    }

    private static void atFirst() {
        Play.sentence("At first all bytes are 0; it can't be read (as before it is written first)");
        Play p = new Play(1, 1);
        for (int s = 0; s < 284; s++) {
            if (s != 80) {
                p.due(-1, "sector", 0, s, 0);
            }
        }
        sector(p, 0, 80, note(2, 1, 0, Plain.row(0)));
    }

    private static void noteBytes() {
        Play.sentence("its kind (one byte), its height (two bytes), its NUMBER (one byte), how many bytes it has in all"
            + " (two bytes), two that are 0, and what it tells");
        Play p = new Play(1, 1);
        byte[] vote = Bench.vote(2, 1, 1, 0, FIRST);
        sector(p, 1, 80, note(2, 1, 0, Plain.row(0)));
        sector(p, 1, 82, note(3, 1, 1, Plain.row(0), p.flight(0)));
        sector(p, 1, 84, note(3, 1, 2, Plain.row(1), vote));
        p.due(3, "state", 1, 9);
        p.due(3, "state", 1, 10);
        p.bringOwn(1, 2, 1, 1, 0);
        p.bringOwn(2, 1, 2, 1, 0);
        p.tell(3, 1, Bench.vote(2, 3, 1, 0, FIRST));
        sector(p, 1, 86, note(4, 1, 3, Plain.row(0), FIRST));
        sector(p, 1, 88, note(3, 1, 4, Plain.row(2), Bench.vote(3, 1, 1, 0, FIRST)));
        p.due(5, "state", 1, 9);
        p.due(-1, "sector", 1, 81, 0);
        p.due(-1, "sector", 1, 90, 0);
    }

    private static void chainPlaces() {
        Play.sentence("CHAIN of height h stands in sectors 2 h - 2 and on, its number is 0");
        Play p = new Play(1, 1);
        for (int i = 0; i < 20 && p.state(0, 0) < 41; i++) {
            p.call("calm", 64, 1);
        }
        for (int height = 1; height <= 40; height++) {
            sector(p, 0, 2 * height - 2, note(1, height, 0, p.read(101, "block", 0, height)));
            p.due(-1, "sector", 0, 2 * height - 1, 0);
        }
    }

    private static void notePlaces() {
        Play.sentence("the others from sector 80 + 2 k on, k, their number, being how many whole ones there were of this"
            + " height before");
        Play p = new Play(1, 1);
        for (int round = 0; round < 15; round++) {
            p.passRound();
        }
        // each round has at most ROUND and three that are sent; node 2 proposes in rounds 1, 5, 9, 13
        for (int node = 0; node < 3; node++) {
            long notes = p.call("state", node, 9);
            for (int k = 0; k < notes; k++) {
                long head = p.call("sector", node, 80 + 2 * k, 0);
                p.check("height of note " + k, head >>> 40 & 65535, 1);
                p.check("number of note " + k, head >>> 32 & 255, k);
            }
            p.due(-1, "sector", node, (int) (80 + 2 * notes), 0);
        }
        // another height starts at 80 again
        Play q = new Play(1, 1);
        q.until(0, 2);
        sector(q, 0, 80, note(2, 2, 0, Plain.row(0)));
    }

    /** Seven nodes, of which 5 and 6 are liars: node 2 builds a block with these evidences and so many payments. */
    private static Play big(byte[][] evidences, int payments) {
        Play p = new Play(2, 2);
        for (byte[] e : evidences) {
            p.tell(6, 2, Plain.join(Plain.row(6), e));
        }
        for (int i = 0; i < payments; i++) {
            p.due(1, "submit", 2, i % 8, 9, 1, i / 8, 1);
        }
        // the others do not hear of them, lest more fly than can
        for (int node : new int[] {0, 1, 3, 4}) {
            p.due(1, "crash", node);
        }
        p.call("calm", 1, 0);
        for (int node : new int[] {0, 1, 3, 4}) {
            p.due(1, "restart", node);
        }
        return p;
    }

    private static void justOneSector() {
        Play.sentence("in sectors of 512 bytes, which are written one by one, as many as it needs");
        Play p = big(new byte[][] {Bench.evidence(5, 2, 1, 0, null, LOW)}, 52);
        p.until(0, 2);
        Play cut = p.fork();
        p.until(0, 3);
        byte[] block = p.read(504, "block", 0, 2);
        p.check("its parts", block[99] * 10 + block[100], 521);
        p.due(0, "block", 0, 2, 504);
        p.check("a note of 512 bytes", p.read(512, "sector", 0, 2), note(1, 2, 0, block));
        p.due(-1, "sector", 0, 3, 0);
        // PREVOTE, LOCK, PRECOMMIT come first; the one sector of CHAIN is its last one
        long sectors = cut.call("state", 0, 10);
        cut.due(1, "cut", 0, 4);
        for (int i = 0; i < 20 && cut.state(0, 5) == 1; i++) {
            cut.call("calm", 1, 1);
        }
        cut.due(0, "state", 0, 5);
        cut.due(-1, "sector", 0, 2, 0);
        cut.due(-1, "block", 0, 2, 0);
        // SENT, two of LOCK, SENT
        cut.due(sectors + 4, "state", 0, 10);
    }

    private static void justTwoSectors() {
        Play.sentence("as many as it needs");
        Play p = big(new byte[][] {Bench.evidence(5, 2, 1, 0, null, LOW), Bench.evidence(6, 2, 1, 0, LOW, HIGH)}, 42);
        p.until(0, 2);
        Play q = p.fork();
        p.until(0, 3);
        byte[] block = p.read(505, "block", 0, 2);
        p.check("its parts", block[99] * 10 + block[100], 422);
        byte[] note = note(1, 2, 0, block);
        p.check("a note of 513 bytes", note.length, 513);
        sector(p, 0, 2, Plain.part(note, 0, 512));
        sector(p, 0, 3, Plain.part(note, 512, 513));
        Play.sentence("the note's last sector is not written to its end: the first half (rounded down) of the note's bytes"
            + " in it");
        // PREVOTE, LOCK, PRECOMMIT come first; of CHAIN's second sector's one byte none is written
        long sectors = q.call("state", 0, 10);
        q.due(1, "cut", 0, 4);
        for (int i = 0; i < 20 && q.state(0, 5) == 1; i++) {
            q.call("calm", 1, 1);
        }
        q.due(0, "state", 0, 5);
        q.due(2, "state", 0, 0);
        // SENT, two of LOCK, SENT, one of CHAIN
        q.due(sectors + 5, "state", 0, 10);
        sector(q, 0, 2, Plain.part(note, 0, 512));
        q.due(-1, "sector", 0, 3, 0);
        q.due(-1, "block", 0, 2, 0);
        q.due(1, "restart", 0);
        q.due(2, "state", 0, 0);
        q.until(0, 3);
        sector(q, 0, 3, Plain.part(note, 512, 513));
        q.check("its block", q.read(505, "block", 0, 2), block);
    }

    private static void twoSectors() {
        Play.sentence("CHAIN of height h stands in sectors 2 h - 2 and on; the others from sector 80 + 2 k on");
        Play p = big(new byte[][] {Bench.evidence(5, 2, 1, 0, LOW, HIGH), Bench.evidence(6, 2, 1, 0, LOW, HIGH)}, 64);
        p.until(2, 2);
        byte[] m = p.flight(p.findOwn(2, 0, 1, 2, 0));
        p.check("the greatest block", m.length, 6 + 691);
        byte[] block = Plain.part(m, 6, m.length);
        byte[] sent = note(3, 2, 1, Plain.row(0), m);
        sector(p, 2, 82, Plain.part(sent, 0, 512));
        p.check("its second sector", p.read(sent.length - 512, "sector", 2, 83), Plain.part(sent, 512, sent.length));
        p.until(0, 3);
        byte[] chain = note(1, 2, 0, block);
        sector(p, 0, 2, Plain.part(chain, 0, 512));
        sector(p, 0, 3, Plain.part(chain, 512, chain.length));
        byte[] lock = note(4, 2, 2, Plain.row(0), block);
        sector(p, 0, 84, Plain.part(lock, 0, 512));
        p.check("LOCK's second sector", p.read(lock.length - 512, "sector", 0, 85), Plain.part(lock, 512, lock.length));
        p.check("the block", p.read(691, "block", 0, 2), block);
        p.due(0, "block", 0, 2, 691);
    }

    private static void behindTheEnd() {
        Play.sentence("Of a sector the bytes behind the note's end stay as they were");
        Play p = new Play(1, 1);
        p.until(0, 2);
        byte[] old = note(3, 1, 1, Plain.row(1), Bench.vote(2, 0, 1, 0, FIRST));
        sector(p, 0, 82, old);
        p.ticks(4);
        byte[] now = note(3, 2, 1, Plain.row(1), Bench.vote(2, 0, 2, 0, null));
        sector(p, 0, 82, Plain.join(now, Plain.part(old, now.length, old.length)));
    }

    private static void halfOfOne() {
        Play.sentence("of one that is not written to its end the first half (rounded down) of the note's bytes in it is"
            + " written, and it can't be read till it is written again");
        Play p = new Play(1, 1);
        p.due(1, "cut", 0, 1);
        p.bringOwn(1, 0, 1, 1, 0);
        p.due(0, "state", 0, 5);
        p.due(-1, "sector", 0, 82, 0);
        p.due(1, "state", 0, 9);
        p.due(1, "state", 0, 10);
        byte[] torn = note(3, 1, 1, Plain.row(1), Bench.vote(2, 0, 1, 0, FIRST));
        p.check("its bytes", torn.length, 47);
        p.due(1, "restart", 0);
        p.due(-1, "sector", 0, 82, 0);
        p.ticks(4);
        byte[] now = note(3, 1, 1, Plain.row(1), Bench.vote(2, 0, 1, 0, null));
        // 23 of 47 were written
        sector(p, 0, 82, Plain.join(now, Plain.part(torn, now.length, 23)));
        p.due(2, "state", 0, 9);
        p.due(2, "state", 0, 10);
    }

    private static void halfOfMore() {
        Play.sentence("the first half (rounded down)");
        // LOCK of 110 bytes is cut: 55; then a PRECOMMIT for none of 15 stands there
        Play p = new Play(1, 1);
        p.bringOwn(1, 0, 1, 1, 0);
        p.bringOwn(1, 0, 2, 1, 0);
        p.due(1, "cut", 0, 1);
        p.tell(3, 0, Bench.vote(2, 3, 1, 0, FIRST));
        p.due(0, "state", 0, 5);
        p.due(-1, "state", 0, 3);
        p.due(-1, "sector", 0, 84, 0);
        byte[] torn = note(4, 1, 2, Plain.row(0), FIRST);
        p.check("its bytes", torn.length, 110);
        p.due(1, "restart", 0);
        // timer 1, the timer of its step
        p.due(2, "state", 0, 7);
        p.ticks(4);
        byte[] now = note(3, 1, 2, Plain.row(2), Bench.vote(3, 0, 1, 0, null));
        sector(p, 0, 84, Plain.join(now, Plain.part(torn, now.length, 55)));
    }

    private static void cutInSecond() {
        Play.sentence("the note's last sector is not written to its end");
        Play p = big(new byte[0][], 64);
        p.until(0, 2);
        p.until(2, 2);
        byte[] m = p.flight(p.findOwn(2, 0, 1, 2, 0));
        byte[] block = Plain.part(m, 6, m.length);
        long sectors = p.call("state", 0, 10);
        long notes = p.call("state", 0, 9);
        p.due(1, "cut", 0, 2);
        for (int i = 0; i < 9 && p.state(0, 5) == 1; i++) {
            p.call("calm", 1, 1);
        }
        // its PREVOTE is whole, LOCK is not: the first sector is
        p.due(0, "state", 0, 5);
        p.due(notes + 1, "state", 0, 9);
        p.due(sectors + 2, "state", 0, 10);
        byte[] torn = note(4, 2, 2, Plain.row(0), block);
        sector(p, 0, 84, Plain.part(torn, 0, 512));
        p.due(-1, "sector", 0, 85, 0);
        p.due(-1, "state", 0, 3);
        p.due(1, "state", 0, 2);
        p.due(1, "state", 0, 8);
        p.due(1, "restart", 0);
        Play.sentence("as far as they are whole and of this height");
        p.due(-1, "state", 0, 3);
        p.due(-1, "state", 0, 4);
        p.due(1, "state", 0, 2);
        // the next note has its number and its place, one sector: the second one can't be read still
        p.ticks(4);
        p.due(2, "state", 0, 2);
        byte[] now = note(3, 2, 2, Plain.row(2), Bench.vote(3, 0, 2, 0, null));
        sector(p, 0, 84, Plain.join(now, Plain.part(torn, now.length, 512)));
        p.due(-1, "sector", 0, 85, 0);
        p.due(1, "crash", 0);
        p.due(2, "state", 0, 2);
        p.due(2, "state", 0, 8);
        p.due(1, "restart", 0);
        p.due(2, "state", 0, 2);
        p.due(2, "state", 0, 8);
    }

    private static void cutIsNotDone() {
        Play.sentence("and neither it nor anything behind it is done (messages sent before fly on)");
        Play p = new Play(1, 1);
        p.due(1, "cut", 0, 1);
        p.bringOwn(1, 0, 1, 1, 0);
        // the PROPOSAL was sent on to 2 and 3, the PREVOTE is not sent
        p.due(7, "count", 0);
        p.due(8, "count", 3);
        p.due(0, "state", 0, 8);
        p.due(0, "state", 0, 2);
        Play q = new Play(1, 1);
        q.bringOwn(1, 0, 1, 1, 0);
        q.bringOwn(1, 0, 2, 1, 0);
        q.due(1, "cut", 0, 2);
        int at = q.flights();
        q.tell(3, 0, Bench.vote(2, 3, 1, 0, FIRST));
        // LOCK is done, its PRECOMMIT is not
        q.due(at + 2, "count", 0);
        q.due(0, "state", 0, 5);
        q.due(0, "state", 0, 3);
        q.due(0, "state", 0, 4);
        q.due(1, "state", 0, 2);
        q.due(1, "state", 0, 8);
    }

    private static void cutCounts() {
        Play.sentence("An honest node's k-th note from now on (down or not) is cut, in place of what was said before, if k is"
            + " 1 .. 1000; none is, for 0 (a restart leaves it; one that was cut is over)");
        // ahead of it ROUND; PREVOTE, LOCK, PRECOMMIT, CHAIN, ROUND come
        int[][] cases = {{1, 1}, {2, 2}, {3, 3}, {4, 4}, {5, 5}, {6, 6}};
        for (int[] c : cases) {
            for (int turn = 0; turn <= 3; turn++) {
                Play p = new Play(1, 1);
                if (turn == 1) {
                    p.due(1, "cut", 0, 1);
                } else if (turn == 2) {
                    p.due(1, "crash", 0);
                }
                p.due(1, "cut", 0, c[0]);
                if (turn == 2) {
                    p.due(1, "restart", 0);
                } else if (turn == 3) {
                    p.due(1, "crash", 0);
                    p.due(1, "restart", 0);
                }
                for (int i = 0; i < 30 && p.state(0, 5) == 1; i++) {
                    p.call("calm", 1, 1);
                }
                p.due(0, "state", 0, 5);
                p.due(c[1], "state", 0, 9);
                // one that was cut is over
                p.due(1, "restart", 0);
                p.call("calm", 20, 1);
                p.due(1, "state", 0, 5);
            }
        }
        Play none = new Play(1, 1);
        none.due(1, "cut", 0, 1);
        none.due(1, "cut", 0, 0);
        none.call("calm", 20, 1);
        none.due(1, "state", 0, 5);
        Play many = new Play(1, 1);
        many.due(1, "cut", 0, 1000);
        for (int i = 0; i < 20 && many.state(0, 0) < 41; i++) {
            many.call("calm", 64, 1);
        }
        many.due(1, "state", 0, 5);
        Play.sentence("another node's notes do not count");
        Play other = new Play(1, 1);
        other.due(1, "cut", 2, 1);
        other.bringOwn(1, 0, 1, 1, 0);
        other.due(1, "state", 0, 5);
        other.due(1, "state", 2, 5);
    }

    private static void cutChain() {
        Play.sentence("NOTE CHAIN; it is the chain's next");
        Play p = new Play(1, 1);
        p.due(1, "submit", 0, 0, 1, 5, 0, 1);
        p.due(1, "cut", 0, 4);
        for (int i = 0; i < 20 && p.state(0, 5) == 1; i++) {
            p.call("calm", 1, 1);
        }
        p.due(1, "state", 0, 0);
        p.due(2, "state", 0, 2);
        p.due(0, "state", 0, 3);
        p.due(2, "state", 0, 8);
        p.due(-1, "block", 0, 1, 0);
        p.due(-1, "sector", 0, 0, 0);
        p.due(1, "restart", 0);
        p.due(1, "state", 0, 0);
        // the timer of step precommit
        p.due(4, "state", 0, 7);
        p.until(0, 2);
        sector(p, 0, 0, note(1, 1, 0, FIRST));
    }

    private static void cutRoundOfNext() {
        Play.sentence("round and step 0 without any; (A round whose PROPOSAL was not noted has none.)");
        // node 2 is the proposer of height 2: its ROUND is cut, or its PROPOSAL
        for (int k = 5; k <= 6; k++) {
            Play p = new Play(1, 0);
            p.due(1, "cut", 2, k);
            for (int i = 0; i < 20 && p.state(2, 5) == 1; i++) {
                p.call("calm", 1, 1);
            }
            p.due(0, "state", 2, 5);
            int[] want = {2, 0, 0, -1, -1, 0, 0, 0, 0, k};
            for (int what = 0; what < want.length; what++) {
                p.due(want[what], "state", 2, what);
            }
            p.due(1, "restart", 2);
            // sectors of the height before are not of this one
            want = new int[] {2, 0, 0, -1, -1, 1, 0, 1, 0, k};
            for (int what = 0; what < want.length; what++) {
                p.due(want[what], "state", 2, what);
            }
            p.check("it proposes nothing", p.findOwn(2, 0, 1, 2, 0), -1);
            p.ticks(4);
            p.check("it prevotes", p.flight(p.findOwn(2, 0, 2, 2, 0)), Bench.vote(2, 2, 2, 0, null));
            // a ROUND that is whole has number 0, so that the PREVOTE has 1
            p.check("its number", p.call("sector", 2, k == 5 ? 80 : 82, 0) >>> 32 & 255, k - 5);
        }
    }

    /** Nodes 1, 2, 3 answer node 0 with SNAPSHOTs. */
    private static void takes(Play p) {
        for (int node = 1; node <= 3 && p.state(0, 5) == 1; node++) {
            p.bring(0, node, 5);
            p.bring(node, 0, 7);
        }
    }

    /** Node 0 falls, the others go on by so many heights, and it comes again. */
    private static void leaveBehind(Play p, int heights) {
        p.due(1, "crash", 0);
        int height = p.state(0, 0) + heights;
        boolean ready = false;
        for (int i = 0; i < 200 && !ready; i++) {
            p.call("calm", 1, 1);
            ready = p.state(1, 0) >= height && p.state(2, 0) == p.state(1, 0) && p.state(3, 0) == p.state(1, 0);
        }
        p.due(1, "restart", 0);
    }

    private static void snapPlaces() {
        Play.sentence("SNAP in sectors 280 and on, or 282 and on (where the newest one that is whole isn't; the first one at"
            + " 280), its number is 0");
        Play p = new Play(2, 1);
        for (int turn = 0; turn < 4; turn++) {
            leaveBehind(p, 6);
            Play cut = p.fork();
            byte[] other = turn == 0 ? null : p.read(123, "sector", 0, turn % 2 == 0 ? 282 : 280);
            takes(p);
            int height = p.state(0, 0);
            p.check("it has taken", height, p.state(1, 0));
            int at = turn % 2 == 0 ? 280 : 282;
            p.check("SNAP", p.call("sector", 0, at, 0), Plain.eight(Plain.row(6, 0, height, 0, 0, 123, 0, 0), 0));
            if (turn == 0) {
                p.due(-1, "sector", 0, 282, 0);
            } else {
                p.check("the one before stays", p.read(123, "sector", 0, 562 - at), other);
            }
            p.due(-1, "sector", 0, 281, 0);
            p.due(-1, "sector", 0, 283, 0);
            if (turn > 0) {
                // a SNAP that is cut leaves the one before, and stands where it was to stand when it comes again
                int before = cut.state(0, 0);
                cut.due(1, "cut", 0, 1);
                takes(cut);
                cut.due(0, "state", 0, 5);
                cut.due(before, "state", 0, 0);
                cut.due(-1, "sector", 0, at, 0);
                cut.check("the one before stays", cut.read(123, "sector", 0, 562 - at), other);
                cut.due(1, "restart", 0);
                cut.due(before, "state", 0, 0);
                takes(cut);
                cut.due(height, "state", 0, 0);
                cut.check("SNAP", cut.read(123, "sector", 0, at), p.read(123, "sector", 0, at));
                cut.check("the one before stays", cut.read(123, "sector", 0, 562 - at), other);
            }
        }
    }

    private static void snapCutFirst() {
        Play.sentence("the first one at 280");
        Play p = new Play(2, 1);
        leaveBehind(p, 6);
        p.due(1, "cut", 0, 1);
        takes(p);
        p.due(0, "state", 0, 5);
        p.due(1, "state", 0, 0);
        p.due(-1, "sector", 0, 280, 0);
        p.due(-1, "sector", 0, 282, 0);
        p.due(1, "restart", 0);
        takes(p);
        p.check("it has taken", p.state(0, 0), p.state(1, 0));
        p.check("SNAP", p.call("sector", 0, 280, 0) >>> 56, 6);
        p.due(-1, "sector", 0, 282, 0);
    }

    private static void fallLoses() {
        Play.sentence("Pool, timers, proofs, and what is held are lost (the rest is as the notes say)");
        for (int way = 0; way <= 1; way++) {
            Play p = new Play(1, 1);
            p.due(1, "submit", 0, 0, 1, 5, 0, 1);
            p.tell(3, 0, Plain.join(Plain.row(6), Bench.evidence(3, 2, 1, 0, null, LOW)));
            p.tell(3, 0, Bench.vote(2, 3, 1, 5, null));
            p.tell(3, 0, Bench.vote(2, 3, 2, 5, null));
            p.due(1, "state", 0, 6);
            p.due(1, "state", 0, 7);
            p.due(1, "state", 0, 11);
            if (way == 0) {
                p.due(1, "crash", 0);
            } else {
                p.due(1, "cut", 0, 1);
                p.bringOwn(1, 0, 1, 1, 0);
            }
            int[] want = {1, 0, 0, -1, -1, 0, 0, 0, 0, 1, 1, 0};
            for (int what = 0; what < want.length; what++) {
                p.due(want[what], "state", 0, what);
            }
            p.due(0, "paid", 0, 3);
            p.due(1, "restart", 0);
            p.due(0, "state", 0, 6);
            p.due(0, "state", 0, 11);
            // what was held is a first one again, whatever it is for
            int at = p.flights();
            p.tell(3, 0, Bench.vote(2, 3, 1, 5, FIRST));
            p.due(at + 2, "count", 0);
            p.tell(3, 0, Bench.vote(2, 3, 2, 5, FIRST));
            p.due(at + 5, "count", 0);
            p.due(0, "state", 0, 11);
            p.due(1, "submit", 0, 0, 1, 5, 0, 1);
        }
        // DECIDED and SNAPSHOTs are lost, too
        Play p = Play.behind(1);
        p.bring(1, 0, 7);
        p.due(1, "pass", 6, 0, p.find(2, 0, 7));
        p.due(7, "deliver", p.flights() - 1);
        p.due(1, "crash", 0);
        p.due(1, "restart", 0);
        p.bring(2, 0, 7);
        p.due(1, "state", 0, 0);
    }

    private static void againAsNotesSay() {
        Play.sentence("round, step, locked, valid, and what it sent of this height as its notes, numbers 0 and on");
        Play p = new Play(1, 1);
        p.passRound();
        p.passRound();
        p.tell(3, 0, Bench.proposal(3, 1, 2, 255, FIRST));
        p.tell(3, 1, Bench.proposal(3, 1, 2, 255, FIRST));
        p.bringOwn(1, 0, 2, 1, 2);
        p.tell(3, 0, Bench.vote(2, 3, 1, 2, FIRST));
        int[] want = {1, 2, 2, 2, 2, 1};
        for (int what = 0; what < want.length; what++) {
            p.due(want[what], "state", 0, what);
        }
        long sent = p.call("state", 0, 8);
        p.due(1, "crash", 0);
        want[5] = 0;
        for (int turn = 0; turn <= 1; turn++) {
            for (int what = 0; what < want.length; what++) {
                p.due(want[what], "state", 0, what);
            }
            p.due(sent, "state", 0, 8);
            p.check("locked", p.read(101, "block", 0, 0), FIRST);
            p.check("valid", p.read(101, "block", 0, -1), FIRST);
            want[5] = 1;
            if (turn == 0) {
                p.due(1, "restart", 0);
            }
        }
        // timer 2 of step precommit, in round 2
        p.due(4, "state", 0, 7);
        p.ticks(5);
        p.due(4, "state", 0, 7);
        p.ticks(1);
        p.due(3, "state", 0, 1);
        // (1 + 3) modulo 4 is 0: it proposes its valid block, with its round
        byte[] m = p.flight(p.findOwn(0, 1, 1, 1, 3));
        p.check("its PROPOSAL", m, Bench.proposal(0, 1, 3, 2, FIRST));
    }

    private static void againHoldsItsOwn() {
        Play.sentence("it holds what it sent itself");
        Play p = new Play(1, 1);
        p.due(1, "crash", 1);
        p.due(1, "restart", 1);
        int at = p.flights();
        p.tell(3, 1, Plain.row(5, 0, 1));
        p.due(at + 2, "count", 0);
        p.check("its PROPOSAL", p.flight(at), Bench.proposal(1, 1, 0, 255, FIRST));
        p.check("its PREVOTE", p.flight(at + 1), Bench.vote(2, 1, 1, 0, FIRST));
        p.due(2, "state", 1, 8);
        // with these two, Q PREVOTEs lock it
        p.bringOwn(1, 2, 1, 1, 0);
        p.bringOwn(2, 1, 2, 1, 0);
        p.due(-1, "state", 1, 3);
        p.tell(3, 1, Bench.vote(2, 3, 1, 0, FIRST));
        p.due(0, "state", 1, 3);
        p.due(2, "state", 1, 2);
    }

    private static void againWithoutNotes() {
        Play.sentence("as its notes, numbers 0 and on, as far as they are whole and of this height");
        // notes 1 .. 3 of height 1 stand behind note 0 of height 2
        Play p = new Play(1, 1);
        p.until(0, 2);
        p.check("a note of the height before", p.call("sector", 0, 84, 0) >>> 40, 0x040001L);
        p.due(1, "crash", 0);
        p.due(1, "restart", 0);
        int[] want = {2, 0, 0, -1, -1, 1, 0, 1, 0};
        for (int what = 0; what < want.length; what++) {
            p.due(want[what], "state", 0, what);
        }
        // its next note has number 1
        p.ticks(4);
        p.check("its PREVOTE", p.call("sector", 0, 82, 0), Plain.eight(Plain.row(3, 0, 2, 1, 0, 15, 0, 0), 0));
    }

    private static void againSetsTimer() {
        Play.sentence("the timer of its step is set; then it sends ASK of its height to all others, and the rules follow");
        // steps 0, 1, 2 of node 0
        Play p = new Play(1, 1);
        for (int step = 0; step <= 2; step++) {
            Play q = p.fork();
            q.due(step, "state", 0, 2);
            q.due(1, "crash", 0);
            q.due(0, "state", 0, 7);
            q.ticks(2);
            int at = q.flights();
            q.due(1, "restart", 0);
            q.due(1 << step, "state", 0, 7);
            q.sent(at, 0, Plain.row(5, 0, 1), 1, 2, 3);
            q.due(1, "crash", 1);
            q.due(1, "crash", 2);
            q.ticks(3);
            q.due(1 << step, "state", 0, 7);
            q.due(1, "tick");
            if (step == 0) {
                p.bringOwn(1, 0, 1, 1, 0);
            } else if (step == 1) {
                p.bringOwn(1, 0, 2, 1, 0);
                p.tell(3, 0, Bench.vote(2, 3, 1, 0, FIRST));
            }
        }
    }

    private static void againNotBeen() {
        Play.sentence("rules 5, 7, 8 have not been in this round");
        Play p = new Play(1, 1);
        p.ticks(4);
        p.bringOwn(1, 0, 2, 1, 0);
        p.tell(3, 0, Bench.vote(2, 3, 1, 0, FIRST));
        p.due(2, "state", 0, 7);
        p.due(1, "crash", 0);
        p.due(1, "restart", 0);
        p.due(2, "state", 0, 7);
        p.ticks(2);
        // Q PREVOTEs whatever for once more: timer 1 is set once more, and ends later
        p.bringOwn(2, 0, 2, 1, 0);
        p.tell(3, 0, Bench.vote(2, 3, 1, 0, FIRST));
        p.due(2, "state", 0, 7);
        p.due(0, "tick");
        p.due(0, "tick");
        p.due(1, "state", 0, 2);
        p.due(0, "tick");
        p.due(1, "tick");
        p.due(2, "state", 0, 2);
    }

    private static void againWithSnap() {
        Play.sentence("height, accounts, last id, chain are as the newest SNAP says that is whole, and the CHAIN notes from"
            + " its height on, one behind the other (those of heights below it are its blocks there)");
        Play p = new Play(2, 1);
        p.due(1, "submit", 1, 0, 1, 5, 0, 1);
        p.until(0, 3);
        leaveBehind(p, 6);
        takes(p);
        int height = p.state(0, 0);
        p.until(0, height + 2);
        for (int turn = 0; turn <= 2; turn++) {
            for (int h = 1; h <= 40; h++) {
                boolean has = h <= 2 || h == height || h == height + 1;
                p.check("block " + h, p.call("block", 0, h, 0) != -1, has);
                if (has) {
                    p.check("block " + h, p.read(101, "block", 0, h), p.read(101, "block", 1, h));
                }
            }
            p.due(height + 2, "state", 0, 0);
            for (int k = 0; k < 16; k++) {
                p.check("account " + k, p.call("account", 0, k, 0), p.call("account", 2, k, 0));
            }
            p.due(1, turn == 0 ? "crash" : "restart", 0);
            if (turn == 1) {
                p.due(1, "crash", 0);
            }
        }
    }

    private static void againRules() {
        Play.sentence("then it sends ASK of its height to all others, and the rules follow");
        // node 2 is the proposer of height 2: its PROPOSAL is noted, its PREVOTE is cut
        Play p = new Play(1, 0);
        p.due(1, "cut", 2, 7);
        for (int i = 0; i < 20 && p.state(2, 5) == 1; i++) {
            p.call("calm", 1, 1);
        }
        p.due(2, "state", 2, 0);
        p.due(0, "state", 2, 2);
        p.due(1, "state", 2, 8);
        int at = p.flights();
        p.due(1, "restart", 2);
        p.due(1, "state", 2, 2);
        p.due(1, "state", 2, 7);
        p.due(2, "state", 2, 8);
        p.due(at + 6, "count", 0);
        p.check("ASK first", p.flight(at), Plain.row(5, 0, 2));
        p.check("then its PREVOTE", Plain.part(p.flight(at + 3), 0, 6), Plain.row(2, 2, 0, 2, 0, 1));
        // a note of what follows may be cut, too
        Play q = new Play(1, 0);
        q.due(1, "cut", 2, 7);
        for (int i = 0; i < 20 && q.state(2, 5) == 1; i++) {
            q.call("calm", 1, 1);
        }
        q.due(1, "cut", 2, 1);
        q.due(1, "restart", 2);
        q.due(0, "state", 2, 5);
        q.due(0, "state", 2, 2);
        q.due(at + 3, "count", 0);
    }

    private static void againAtForty() {
        Play.sentence("the timer of its step is set (not at height 41)");
        Play p = new Play(1, 0);
        for (int i = 0; i < 300 && p.state(0, 0) < 40; i++) {
            p.call("calm", 1, 1);
        }
        p.due(40, "state", 0, 0);
        p.due(1, "crash", 0);
        p.due(1, "restart", 0);
        p.due(1 << p.state(0, 2), "state", 0, 7);
    }

    private static void cutBehindLaterRound() {
        Play.sentence("round and step are 0; (round and step 0 without any)");
        // the first block is decided in round 1, and ROUND of height 2 is cut
        Play p = new Play(1, 0);
        p.ticks(4);
        p.call("calm", 4, 0);
        p.due(1, "submit", 2, 0, 1, 5, 0, 1);
        p.due(1, "state", 0, 1);
        p.due(1, "state", 0, 0);
        for (int i = 0; i < 30 && p.call("sector", 0, 0, 0) == -1 && p.state(0, 5) == 1; i++) {
            // ahead of CHAIN: what comes next is CHAIN, then ROUND
            Play q = p.fork();
            q.call("calm", 1, 1);
            if (q.state(0, 0) == 2) {
                break;
            }
            p.call("calm", 1, 1);
        }
        p.due(1, "state", 0, 1);
        p.due(2, "state", 0, 2);
        p.due(1, "cut", 0, 2);
        p.call("calm", 1, 1);
        int[] want = {2, 0, 0, -1, -1, 0, 0, 0, 0};
        for (int what = 0; what < want.length; what++) {
            if (what != 6) {
                p.due(want[what], "state", 0, what);
            }
        }
        // for one that is down, too, seal tells what is behind its chain
        List<byte[]> lines = new java.util.ArrayList<>();
        for (int k = 0; k < 16; k++) {
            lines.add(p.read(6, "account", 0, k));
        }
        p.put(new byte[101]);
        p.due(0, "seal", 0, 101, 0);
        byte[] head = Plain.join(new byte[3], Bench.idOf(p.read(101, "block", 0, 1)), Plain.rootOf(lines), new byte[34]);
        p.due(Plain.eight(Plain.sha(head), 0), "hash", 101, 0);
        p.due(1, "restart", 0);
        p.due(0, "state", 0, 1);
        p.due(1, "state", 0, 7);
    }

    /** What node 0 sent is lost to another node that falls, as all is. */
    private static void fallLosesOfZero() {
        Play.sentence("and what is held are lost");
        // node 0 is at height 4, where it proposes; node 2 is at 3 still, and holds its PROPOSAL of the next height
        Play p = new Play(1, 0);
        boolean ready = false;
        for (int i = 0; i < 60 && !ready; i++) {
            p.call("calm", 1, 1);
            ready = true;
            for (int node = 0; node < 4; node++) {
                ready &= p.state(node, 0) == 3 && p.state(node, 2) == 2;
            }
        }
        p.check("all are about to decide", ready, true);
        for (int from = 1; from < 4; from++) {
            p.bringOwn(from, 0, 3, 3, 0);
        }
        p.due(4, "state", 0, 0);
        int k = p.findOwn(0, 2, 1, 4, 0);
        p.due(1, "copy", k);
        p.due(1, "copy", k);
        int at = p.flights();
        p.due(1, "deliver", k);
        // ASK, and sent on to 1 and 3
        p.due(at - 1 + 3, "count", 0);
        at = p.flights();
        p.due(1, "deliver", p.findOwn(0, 2, 1, 4, 0));
        p.due(at - 1 + 1, "count", 0);
        p.due(1, "crash", 2);
        p.due(1, "restart", 2);
        at = p.flights();
        p.due(1, "deliver", p.findOwn(0, 2, 1, 4, 0));
        p.due(at - 1 + 3, "count", 0);
    }
}
