import java.util.List;

/** The boundary cases of WHAT FLIES and of promises 8 to 14, sentence by sentence. */
public final class FlightEdgesTest {
    private static final int MIN = Integer.MIN_VALUE;
    private static final int MAX = Integer.MAX_VALUE;
    private static final List<byte[]> NONE = List.of();

    public static void main(String[] args) {
        fliesInOrder();
        fliesToOthers();
        fliesOn();
        fliesAtMost();
        comesToNobody();
        proposerTurns();
        submitNode();
        submitNumbers();
        submitTwice();
        submitLater();
        rowsApart();
        submitRoom();
        deliverWhich();
        calmNumbers();
        calmAge();
        calmMost();
        calmTicks();
        copyWhich();
        copyRoom();
        flyingWhich();
        bytesEnd();
        tickTimers();
        tickFall();
        Play.finish("FlightEdgesTest");
    }

    private static void fliesInOrder() {
        Play.sentence("Messages FLY, in the order in which they were sent (to liars, too), until they are delivered,"
            + " and then no more, ahead of what follows");
        Play p = new Play(1, 1);
        p.due(1, "submit", 2, 0, 1, 5, 0, 1);
        p.due(9, "count", 0);
        byte[][] before = new byte[9][];
        for (int k = 0; k < 9; k++) {
            before[k] = p.flight(k);
        }
        for (int k : new int[] {2, 5, 8}) {
            Play q = p.fork();
            q.due(3, "flying", k, 1);
            q.due(before[k][0], "deliver", k);
            q.due(8, "count", 0);
            for (int i = 0; i < 8; i++) {
                q.check("message " + i, q.flight(i), before[i < k ? i : i + 1]);
                q.check("receiver " + i, q.call("flying", i, 1), p.call("flying", i < k ? i : i + 1, 1));
            }
        }
    }

    private static void fliesToOthers() {
        Play.sentence("What a node SENDS to all goes to the others, in the order of their numbers, and it has it itself"
            + " at once");
        for (int node = 0; node <= 5; node++) {
            Play p = new Play(2, 1);
            p.due(1, "submit", node, 0, 1, 5, 0, 1);
            int[] others = new int[6];
            for (int i = 0; i < 6; i++) {
                others[i] = i < node ? i : i + 1;
            }
            p.sent(12, node, Plain.join(Plain.row(0), Bench.payment(0, 1, 5, 0, 1)), others);
            p.due(1, "state", node, 6);
        }
    }

    private static void fliesOn() {
        Play.sentence("What it SENDS ON goes, as it came, to all but itself, the one from which it came, and its signer"
            + " (that of a PROPOSAL, a vote, or an EVIDENCE)");
        byte[] e = Plain.join(Plain.row(6), Bench.evidence(5, 2, 1, 0, null, Bench.filled(1)));
        Play p = new Play(2, 2);
        p.tell(6, 2, e);
        p.sent(12, 2, e, 0, 1, 3, 4);
        p = new Play(2, 2);
        p.tell(5, 2, e);
        p.sent(12, 2, e, 0, 1, 3, 4, 6);
        byte[] vote = Bench.vote(3, 5, 1, 0, null);
        p = new Play(2, 2);
        p.tell(6, 0, vote);
        p.sent(12, 0, vote, 1, 2, 3, 4);
        // round 4 of height 1 is node 5's
        byte[] proposal = Bench.proposal(5, 1, 4, 255, Bench.firstBlock(0, NONE, NONE));
        p = new Play(2, 2);
        p.tell(6, 0, proposal);
        p.sent(12, 0, proposal, 1, 2, 3, 4);
        // a PAYMENT has no signer, whatever its second byte is
        byte[] payment = Plain.join(Plain.row(0), Bench.payment(1, 2, 5, 0, 1));
        p = new Play(2, 2);
        p.tell(6, 0, payment);
        p.sent(12, 0, payment, 1, 2, 3, 4, 5);
        // an honest node's vote that a liar passes goes to all but the two and the signer
        p = new Play(2, 2);
        p.due(1, "pass", 6, 3, 6);
        p.due(2, "deliver", 12);
        p.sent(12, 3, p.flight(6), 0, 2, 4, 5);
    }

    private static void fliesAtMost() {
        Play.sentence("at most 1000: one more that is sent is lost");
        Play p = Play.nearlyFull();
        p.due(0, "count", 4);
        long sent = p.call("count", 3);
        p.due(1, "submit", 3, 4, 5, 6, 0, 1);
        p.due(1000, "count", 0);
        p.due(sent + 12, "count", 3);
        p.due(11, "count", 4);
        p.due(0, "flying", 999, 1);
        p.due(1, "state", 3, 6);
        p.due(1, "submit", 3, 4, 5, 7, 0, 1);
        p.due(1000, "count", 0);
        p.due(23, "count", 4);
        p.due(2, "state", 3, 6);
        p.due(-1, "flying", 1000, 0);
        // one that is delivered leaves room for one of what comes of it
        p.due(0, "deliver", 999);
        p.due(1000, "count", 0);
        p.due(1, "flying", 999, 1);
        p.due(0, "flying", 999, 0);
    }

    private static void comesToNobody() {
        Play.sentence("What comes to a liar, or to a node that is down, is lost");
        byte[] payment = Plain.join(Plain.row(0), Bench.payment(1, 2, 5, 0, 1));
        Play p = new Play(2, 2);
        p.check("the lie", p.lie(6, 5, payment), true);
        p.due(0, "deliver", 12);
        p.due(12, "count", 0);
        p.due(13, "count", 3);
        p.due(0, "count", 4);
        p = new Play(2, 2);
        p.check("the lie", p.lie(6, 4, payment), true);
        p.due(1, "crash", 4);
        p.due(0, "deliver", 12);
        p.due(12, "count", 0);
        p.due(1, "restart", 4);
        p.due(0, "state", 4, 6);
        // the same one comes again, now that it is up
        p.tell(6, 4, payment);
        p.due(1, "state", 4, 6);
    }

    private static void proposerTurns() {
        Play.sentence("The PROPOSER of a height and round is node (height + round) modulo N");
        // height, round, signer, whether that is the proposer of four nodes
        int[][] cases = {{1, 2, 3, 1}, {1, 1, 3, 0}, {1, 3, 3, 0}, {1, 6, 3, 1}, {1, 10, 3, 1}, {1, 14, 3, 1},
            {1, 15, 3, 0}, {2, 1, 3, 1}, {2, 0, 3, 0}, {2, 13, 3, 1}, {2, 15, 3, 0}};
        for (int[] c : cases) {
            Play p = new Play(1, 1);
            byte[] block = Bench.block(c[0], 0, new byte[32], new byte[32], NONE, NONE);
            byte[] m = Bench.proposal(c[2], c[0], c[1], 255, block);
            p.tell(3, 0, m);
            // of the next height it sends an ASK, too
            int at = c[0] == 1 ? 6 : 7;
            p.check("sent on for " + c[0] + "/" + c[1], p.flights(), c[3] == 1 ? at + 2 : at);
        }
        Play p = new Play(1, 0);
        for (int height = 2; height <= 5; height++) {
            p.until(height % 4, height);
            int k = p.findOwn(height % 4, (height + 1) % 4, 1, height, 0);
            p.check("the PROPOSAL of height " + height, k >= 0, true);
        }
    }

    private static void submitNode() {
        Play.sentence("false if it is down, or no such node (or a liar)");
        Play p = new Play(2, 2);
        for (int node : new int[] {-1, 5, 6, 7, MIN, MAX}) {
            p.refused(0, "submit", node, 0, 1, 5, 0, 1);
        }
        p.fork().due(1, "submit", 0, 0, 1, 5, 0, 1);
        p.fork().due(1, "submit", 4, 0, 1, 5, 0, 1);
        p.due(1, "crash", 4);
        p.refused(0, "submit", 4, 0, 1, 5, 0, 1);
        p.due(1, "restart", 4);
        p.due(1, "submit", 4, 0, 1, 5, 0, 1);
    }

    private static void submitNumbers() {
        Play.sentence("it is no payment (its numbers are not in their ranges)");
        Play p = new Play(1, 1);
        int[][] refused = {{-1, 1, 5, 0, 1}, {16, 1, 5, 0, 1}, {0, -1, 5, 0, 1}, {0, 16, 5, 0, 1}, {0, 0, 5, 0, 1},
            {15, 15, 5, 0, 1}, {0, 1, 0, 0, 1}, {0, 1, 1001, 0, 1}, {0, 1, -1, 0, 1}, {0, 1, 5, -1, 1},
            {0, 1, 5, 65536, 1}, {0, 1, 5, 0, 0}, {0, 1, 5, 0, 10}, {0, 1, 5, 0, -1}, {MIN, 1, 5, 0, 1},
            {0, MAX, 5, 0, 1}, {0, 1, MAX, 0, 1}, {0, 1, 5, MIN, 1}, {0, 1, 5, 0, MAX}, {256, 1, 5, 0, 1},
            {0, 257, 5, 0, 1}, {0, 1, 65537, 0, 1}, {0, 1, 5, 0, 257}};
        for (int[] r : refused) {
            p.refused(0, "submit", 0, r[0], r[1], r[2], r[3], r[4]);
        }
        int[][] fine = {{0, 15, 1, 0, 1}, {15, 0, 1000, 65535, 9}, {0, 1, 1, 65535, 9}, {14, 15, 1000, 0, 1}};
        for (int[] c : fine) {
            Play q = p.fork();
            q.due(1, "submit", 0, c[0], c[1], c[2], c[3], c[4]);
            q.sent(6, 0, Plain.join(Plain.row(0), Bench.payment(c[0], c[1], c[2], c[3], c[4])), 1, 2, 3);
        }
    }

    private static void submitTwice() {
        Play.sentence("it is in the pool");
        Play p = new Play(1, 1);
        p.due(1, "submit", 0, 1, 2, 5, 0, 1);
        p.refused(0, "submit", 0, 1, 2, 5, 0, 1);
        int[][] others = {{3, 2, 5, 0, 1}, {1, 3, 5, 0, 1}, {1, 2, 261, 0, 1}, {1, 2, 6, 0, 1}, {1, 2, 5, 1, 1},
            {1, 2, 5, 256, 1}, {1, 2, 5, 0, 2}};
        for (int[] o : others) {
            p.fork().due(1, "submit", 0, o[0], o[1], o[2], o[3], o[4]);
        }
        // of another node's pool it says nothing
        p.fork().due(1, "submit", 2, 1, 2, 5, 0, 1);
        // what came by a message is in the pool, too
        p.due(0, "deliver", 7);
        p.refused(0, "submit", 2, 1, 2, 5, 0, 1);
    }

    private static void submitLater() {
        Play.sentence("it is in the pool then, and it sends it to all");
        Play p = new Play(1, 1);
        p.until(0, 3);
        for (int i = 0; i < 40; i++) {
            int at = p.flights();
            p.due(1, "submit", i % 3, 4, 5, 1 + i, i, 1);
            p.check("the PAYMENT", p.flight(at), Plain.join(Plain.row(0), Bench.payment(4, 5, 1 + i, i, 1)));
        }
    }

    /** Messages that fly at once, small and great, behind others that have come. */
    private static void rowsApart() {
        Play.sentence("Messages FLY until they are delivered, and then no more");
        for (int size : new int[] {1, 127, 128, 129, 500, 1000}) {
            Play p = new Play(1, 1);
            for (int turn = 0; turn < 3; turn++) {
                p.put(Plain.join(Plain.row(40 + turn), new byte[size - 1]));
                p.due(1, "lie", 3, 0, size);
            }
            p.due(41, "deliver", p.flights() - 2);
            p.due(40, "deliver", p.flights() - 2);
            for (int turn = 0; turn < 3; turn++) {
                p.put(Plain.join(Plain.row(50 + turn), new byte[size - 2 < 0 ? 0 : size - 2], Plain.row(7)));
                p.due(1, "lie", 3, 0, size);
            }
            int at = p.flights() - 4;
            p.check("the one that was left", p.call("bytes", at, 0) >>> 56, 42);
            for (int turn = 0; turn < 3; turn++) {
                p.check("the one of turn " + turn, p.call("bytes", at + 1 + turn, 0) >>> 56, 50 + turn);
                p.due(size, "flying", at + 1 + turn, 2);
            }
            for (int i = 0; i < 4; i++) {
                p.call("deliver", p.flights() - 1);
            }
            p.due(6, "count", 0);
        }
    }

    private static void submitRoom() {
        Play.sentence("or there is no room: its POOL of payments (at most 80, the oldest first)");
        Play p = new Play(1, 1);
        for (int i = 0; i < 79; i++) {
            p.due(1, "submit", 0, 1, 2, 5, i, 1);
        }
        p.due(79, "state", 0, 6);
        Play q = p.fork();
        p.due(1, "submit", 0, 1, 2, 5, 79, 1);
        p.due(80, "state", 0, 6);
        p.refused(0, "submit", 0, 1, 2, 5, 80, 1);
        p.refused(0, "submit", 0, 1, 2, 5, 79, 1);
        // no room for one that comes by a message either: it is not sent on
        int at = p.flights();
        p.tell(3, 0, Plain.join(Plain.row(0), Bench.payment(1, 2, 6, 0, 1)));
        p.due(80, "state", 0, 6);
        p.due(at, "count", 0);
        at = q.flights();
        q.tell(3, 0, Plain.join(Plain.row(0), Bench.payment(1, 2, 6, 0, 1)));
        q.due(80, "state", 0, 6);
        q.due(at + 2, "count", 0);
        q.refused(0, "submit", 0, 1, 2, 5, 80, 1);
    }

    private static void deliverWhich() {
        Play.sentence("its first byte (0 .. 255), also if it is lost; -1 if there is none");
        Play p = new Play(1, 1);
        for (int k : new int[] {-1, 6, MIN, MAX}) {
            p.refused(-1, "deliver", k);
        }
        p.fork().due(1, "deliver", 0);
        p.fork().due(2, "deliver", 5);
        for (int first : new int[] {0, 127, 128, 255}) {
            Play q = p.fork();
            q.check("the lie", q.lie(3, 0, Plain.row(first)), true);
            q.due(first, "deliver", 6);
            Play down = p.fork();
            down.check("the lie", down.lie(3, 0, Plain.row(first)), true);
            down.due(1, "crash", 0);
            down.due(first, "deliver", 6);
        }
        for (int i = 0; i < 6; i++) {
            p.due(1, "crash", i % 3);
            p.call("deliver", 0);
            p.call("restart", i % 3);
        }
        Play empty = new Play(1, 1);
        for (int node = 0; node < 3; node++) {
            empty.due(1, "crash", node);
        }
        empty.due(6, "calm", 1, 0);
        empty.due(0, "count", 0);
        empty.refused(-1, "deliver", 0);
    }

    private static void calmNumbers() {
        Play.sentence("-1 if n is not 1 .. 64 or d not 0 .. 9");
        Play p = new Play(1, 1);
        for (int[] r : new int[][] {{0, 0}, {65, 0}, {-1, 0}, {MIN, 0}, {MAX, 0}, {1, -1}, {1, 10}, {1, MIN}, {1, MAX}}) {
            p.refused(-1, "calm", r[0], r[1]);
        }
        for (int[] c : new int[][] {{1, 0}, {64, 0}, {1, 9}, {64, 9}}) {
            Play q = p.fork();
            q.check("it is not refused", q.call("calm", c[0], c[1]) >= 0, true);
            q.due(c[0], "count", 2);
        }
    }

    private static void calmAge() {
        Play.sentence("what flies and was sent d ticks ago or earlier is delivered, one message after the other, the"
            + " oldest first each time, also what is sent meanwhile; then tick()");
        for (int d = 1; d <= 9; d++) {
            Play p = new Play(1, 1);
            for (int node = 0; node < 3; node++) {
                p.due(1, "crash", node);
            }
            p.due(0, "calm", d, d);
            p.due(6, "count", 0);
            p.due(6, "calm", 1, d);
            p.due(0, "count", 0);
            p.due(d + 1, "count", 2);
        }
        Play p = new Play(1, 1);
        p.ticks(2);
        p.put(Plain.row(9));
        p.due(1, "lie", 3, 0, 1);
        p.fork().due(6, "calm", 1, 1);
        p.fork().due(6, "calm", 1, 2);
        p.fork().due(0, "calm", 1, 3);
        Play all = p.fork();
        all.check("what is sent meanwhile comes, too", all.call("calm", 1, 0) > 7, true);
        // of what is delivered with d 1 nothing is that was sent meanwhile
        Play one = p.fork();
        one.due(6, "calm", 1, 1);
        one.check("it flies", one.flights() > 1, true);
        Play.sentence("A copy of the message that flies k-th flies behind all from now on");
        Play copied = new Play(1, 1);
        for (int node = 0; node < 3; node++) {
            copied.due(1, "crash", node);
        }
        copied.ticks(3);
        copied.due(1, "copy", 0);
        copied.due(6, "calm", 1, 1);
        copied.due(1, "count", 0);
        copied.due(1, "calm", 1, 1);
    }

    private static void calmMost() {
        Play.sentence("When 5000 are delivered, no more are in this call (the ticks come)");
        Play p = new Play(2, 0);
        p.due(5000, "calm", 1, 0);
        p.check("more fly", p.flights() > 0, true);
        p.due(1, "count", 2);
        Play q = new Play(2, 0);
        q.due(5000, "calm", 64, 0);
        q.due(64, "count", 2);
        q.check("more fly", q.flights() > 0, true);
        // another call has 5000 of its own
        Play again = p.fork();
        again.due(5000, "calm", 1, 0);
    }

    private static void calmTicks() {
        Play.sentence("So often as n says; How many were");
        Play p = new Play(1, 1);
        for (int node = 0; node < 3; node++) {
            p.due(1, "crash", node);
        }
        Play q = p.fork();
        p.due(6, "calm", 3, 0);
        p.due(3, "count", 2);
        p.due(0, "calm", 64, 0);
        p.due(67, "count", 2);
        q.due(6, "calm", 3, 2);
        q.due(0, "count", 0);
    }

    private static void copyWhich() {
        Play.sentence("false if there is none");
        Play p = new Play(1, 1);
        for (int k : new int[] {-1, 6, MIN, MAX}) {
            p.refused(0, "copy", k);
        }
        for (int k : new int[] {0, 5}) {
            Play q = p.fork();
            q.due(1, "copy", k);
            q.sent(6, 1, p.flight(k), k == 0 ? 0 : 3);
            Play.sentence("it does not count as sent");
            q.due(6, "count", 3);
            q.due(0, "count", 4);
        }
    }

    private static void copyRoom() {
        Play.sentence("or no room");
        Play p = Play.nearlyFull();
        p.due(1, "copy", 998);
        p.due(1000, "count", 0);
        p.refused(0, "copy", 998);
        p.refused(0, "copy", 999);
        p.refused(0, "copy", 1000);
    }

    private static void flyingWhich() {
        Play.sentence("0 sender, 1 receiver, 2 how many bytes; -1 if there is none, or for another what");
        Play p = new Play(1, 1);
        p.due(1, "flying", 0, 0);
        p.due(0, "flying", 0, 1);
        p.due(107, "flying", 0, 2);
        p.due(1, "flying", 5, 0);
        p.due(3, "flying", 5, 1);
        p.due(38, "flying", 5, 2);
        for (int[] r : new int[][] {{0, 3}, {0, -1}, {0, MIN}, {0, MAX}, {6, 0}, {6, 1}, {6, 2}, {-1, 0}, {MIN, 0}, {MAX, 2}}) {
            p.refused(-1, "flying", r[0], r[1]);
        }
        p.put(new byte[1000]);
        p.due(1, "lie", 3, 2, 1);
        p.due(3, "flying", 6, 0);
        p.due(2, "flying", 6, 1);
        p.due(1, "flying", 6, 2);
    }

    private static void bytesEnd() {
        Play.sentence("Eight bytes of the message that flies k-th from byte i on, the first one highest, 0 behind its"
            + " end; -1 if there is none, or i is below 0");
        Play p = new Play(1, 1);
        byte[] text = new byte[10];
        for (int i = 0; i < 10; i++) {
            text[i] = (byte) (255 - i);
        }
        // what stood in a row before must not come out behind the end
        p.put(Plain.join(Bench.filled(99), Bench.filled(99)));
        p.due(1, "lie", 3, 0, 64);
        p.due(99, "deliver", 6);
        p.check("the lie", p.lie(3, 0, text), true);
        for (int i : new int[] {0, 1, 2, 3, 9, 10, 11, 127, 128, 999, 1000, MAX - 8, MAX - 7, MAX}) {
            p.due(Plain.eight(text, i), "bytes", 6, i);
        }
        for (int[] r : new int[][] {{6, -1}, {6, MIN}, {7, 0}, {-1, 0}, {MIN, 0}, {MAX, 0}, {-1, -1}}) {
            p.refused(-1, "bytes", r[0], r[1]);
        }
    }

    private static void tickTimers() {
        Play.sentence("A TIMER that is set ends 4 ticks and as many as the round's number later than the latest tick");
        Play p = new Play(1, 1);
        p.due(0, "tick");
        p.due(0, "tick");
        p.due(0, "tick");
        for (int node = 0; node < 3; node++) {
            p.due(1, "state", node, 7);
        }
        Play.sentence("how many timers ended (also without effect; not those of a node behind its fall)");
        p.due(3, "tick");
        for (int node = 0; node < 3; node++) {
            p.due(0, "state", node, 7);
            p.due(1, "state", node, 2);
        }
        p.due(0, "tick");
        p.due(5, "count", 2);
        Play q = new Play(1, 1);
        q.ticks(2);
        q.due(1, "crash", 0);
        q.due(1, "restart", 0);
        q.due(0, "tick");
        // those of 1 and 2, but not that of 0, which was set two ticks later
        q.due(2, "tick");
        q.due(0, "tick");
        q.due(1, "tick");
    }

    private static void tickFall() {
        Play.sentence("not those of a node behind its fall");
        Play p = new Play(1, 1);
        byte[] block = Bench.firstBlock(1, NONE, NONE);
        p.bringOwn(1, 2, 1, 1, 0);
        p.bringOwn(1, 2, 2, 1, 0);
        p.tell(3, 2, Bench.vote(2, 3, 1, 0, block));
        p.bringOwn(2, 1, 2, 1, 0);
        p.tell(3, 1, Bench.vote(2, 3, 1, 0, block));
        p.bringOwn(1, 0, 1, 1, 0);
        p.tell(3, 0, Bench.vote(2, 3, 1, 0, null));
        p.bringOwn(1, 0, 2, 1, 0);
        p.bringOwn(1, 0, 3, 1, 0);
        p.bringOwn(2, 0, 3, 1, 0);
        p.tell(3, 0, Bench.vote(3, 3, 1, 0, null));
        p.due(7, "state", 0, 7);
        p.due(1, "crash", 1);
        p.due(1, "crash", 2);
        p.ticks(3);
        // all three end at one tick: 0 without effect, 1 with a PRECOMMIT, 2 with a round
        int[][] cases = {{0, 3, 1, 1}, {1, 2, 0, 0}, {2, 3, 0, 0}, {3, 3, 1, 1}};
        for (int[] c : cases) {
            Play q = p.fork();
            q.due(1, "cut", 0, c[0]);
            q.due(c[1], "tick");
            q.due(c[2], "state", 0, 5);
            q.due(c[3], "state", 0, 1);
            q.due(c[2], "state", 0, 7);
            q.due(c[0] == 1 ? 1 : c[0] == 2 ? 2 : 0, "state", 0, 2);
        }
    }
}
