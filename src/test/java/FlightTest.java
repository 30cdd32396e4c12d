import java.util.List;

/** Promises 8 to 14: payments from outside, what flies, and ticks. */
public final class FlightTest {
    private static final List<byte[]> NONE = List.of();

    public static void main(String[] args) {
        promise08Submit();
        promise08Refused();
        promise08Pool();
        promise09Deliver();
        promise09Lost();
        promise10Calm();
        promise10Refused();
        promise10Most();
        promise11Copy();
        promise12Flying();
        promise13Bytes();
        promise14Tick();
        promise14Fall();
        promise14Rounds();
        Bench.finish("FlightTest");
    }

    private static void promise08Submit() {
        Bench b = new Bench(1, 1);
        int flights = b.flights();
        Bench.due("submit", b.x.submit(1, 15, 0, 1000, 65535, 9), true);
        Bench.due("pool", b.x.state(1, 6), 1);
        Bench.due("another's pool", b.x.state(0, 6), 0);
        Bench.due("to all others", b.flights(), flights + 3);
        for (int i = 0; i < 3; i++) {
            Bench.due("sender", b.x.flying(flights + i, 0), 1);
            Bench.due("receiver", b.x.flying(flights + i, 1), new int[] {0, 2, 3}[i]);
            Bench.due("it", b.flight(flights + i), Plain.join(Plain.row(0), Bench.payment(15, 0, 1000, 65535, 9)));
        }
        Bench.due("again", b.x.submit(1, 15, 0, 1000, 65535, 9), false);
        Bench.due("with another tip", b.x.submit(1, 15, 0, 1000, 65535, 8), true);
        flights = b.flights();
        b.x.deliver(6);
        Bench.due("it is in the pool there", b.x.state(0, 6), 1);
        Bench.due("sent on, but not back", b.flights(), flights - 1 + 2);
        Bench.due("sent on to", b.x.flying(flights - 1, 1), 2);
        Bench.due("sent on to", b.x.flying(flights, 1), 3);
    }

    private static void promise08Refused() {
        Bench b = new Bench(1, 1);
        int[][] refused = {{-1, 0, 1, 5, 0, 1}, {3, 0, 1, 5, 0, 1}, {4, 0, 1, 5, 0, 1}, {0, -1, 1, 5, 0, 1},
            {0, 16, 1, 5, 0, 1}, {0, 0, -1, 5, 0, 1}, {0, 0, 16, 5, 0, 1}, {0, 2, 2, 5, 0, 1}, {0, 0, 1, 0, 0, 1},
            {0, 0, 1, 1001, 0, 1}, {0, 0, 1, -1, 0, 1}, {0, 0, 1, 5, -1, 1}, {0, 0, 1, 5, 65536, 1},
            {0, 0, 1, 5, 0, 0}, {0, 0, 1, 5, 0, 10}, {0, 256, 1, 5, 0, 1}, {0, 0, 1, 65541, 0, 1}};
        int sent = b.x.count(3);
        for (int[] r : refused) {
            Bench.due("submit(" + java.util.Arrays.toString(r) + ")", b.x.submit(r[0], r[1], r[2], r[3], r[4], r[5]),
                false);
        }
        Bench.due("pool", b.x.state(0, 6), 0);
        Bench.due("sent", b.x.count(3), sent);
        b.x.crash(0);
        Bench.due("down", b.x.submit(0, 0, 1, 5, 0, 1), false);
        Bench.due("the edges", b.x.submit(2, 0, 15, 1, 0, 1), true);
    }

    private static void promise08Pool() {
        Bench b = new Bench(1, 1);
        for (int i = 0; i < 80; i++) {
            Bench.due("submit", b.x.submit(0, 1, 2, 5, i, 1), true);
        }
        Bench.due("no room", b.x.submit(0, 1, 2, 5, 80, 1), false);
        Bench.due("pool", b.x.state(0, 6), 80);
        int flights = b.flights();
        b.tell(3, 0, Plain.join(Plain.row(0), Bench.payment(1, 2, 5, 99, 1)));
        Bench.due("none comes in", b.x.state(0, 6), 80);
        Bench.due("none is sent on", b.flights(), flights);
        b.tell(3, 2, Plain.join(Plain.row(0), Bench.payment(1, 2, 5, 99, 1)));
        Bench.due("where there is room", b.x.state(2, 6), 1);
        b.tell(3, 2, Plain.join(Plain.row(0), Bench.payment(1, 2, 5, 99, 1)));
        Bench.due("not twice", b.x.state(2, 6), 1);
        int[][] bad = {{0, 16, 1, 0, 5, 0, 0, 1}, {0, 1, 1, 0, 5, 0, 0, 1}, {0, 1, 2, 3, 0xe9, 0, 0, 1},
            {0, 1, 2, 0, 0, 0, 0, 1}, {0, 1, 2, 0, 5, 0, 0, 0}, {0, 1, 2, 0, 5, 0, 0, 10}, {0, 1, 2, 0, 5, 0, 0},
            {0, 1, 2, 0, 5, 0, 0, 1, 0}, {0, 1, 200, 0, 5, 0, 0, 1}, {0, 1, 16, 0, 5, 0, 0, 1}, {0, 1, 2, 0, 5, 0, 0, 255}};
        for (int[] m : bad) {
            b.tell(3, 2, Plain.row(m));
            Bench.due("what is no payment", b.x.state(2, 6), 1);
        }
    }

    private static void promise09Deliver() {
        Bench b = new Bench(1, 0);
        Bench.due("none there", b.x.deliver(6), -1);
        Bench.due("none there", b.x.deliver(-1), -1);
        Bench.due("none there", b.x.deliver(Integer.MAX_VALUE), -1);
        byte[] last = b.flight(5);
        byte[] first = b.flight(0);
        Bench.due("a PREVOTE", b.x.deliver(4), 2);
        Bench.due("what stood behind it moved up", b.flight(4), last);
        Bench.due("what stood ahead of it stays", b.flight(0), first);
        Bench.due("a vote that is held is sent on to two", b.flights(), 7);
        Bench.due("to 0", b.x.flying(5, 1), 0);
        Bench.due("to 3", b.x.flying(6, 1), 3);
        Bench.due("the PROPOSAL", b.x.deliver(1), 1);
        Bench.due("it is sent on, and a PREVOTE to all", b.flights(), 6 + 2 + 3);
        Bench.due("the step", b.x.state(2, 2), 1);
        Bench.due("again", b.x.deliver(b.find(2, 0, 1)), 1);
        Bench.due("from another sender", b.x.state(0, 2), 1);
        int flights = b.flights();
        Bench.due("the same twice", b.x.deliver(0), 1);
        Bench.due("is not sent on", b.flights(), flights - 1);
    }

    private static void promise09Lost() {
        Bench b = new Bench(1, 1);
        b.x.crash(0);
        int notes = b.x.state(0, 9);
        Bench.due("to one that is down", b.x.deliver(0), 1);
        Bench.due("nothing came of it", b.x.state(0, 9), notes);
        Bench.due("to a liar", b.x.deliver(b.find(1, 3, 2)), 2);
        Bench.due("what flies", b.flights(), 4);
        Bench.due("an odd first byte", b.lie(3, 0, Plain.row(250, 1)), true);
        Bench.due("is told as it is", b.x.deliver(b.flights() - 1), 250);
        Bench.due("lost for want of room is another thing", b.x.count(4), 0);
        b.fill();
        Bench.due("deliver", b.x.deliver(b.find(1, 2, 1)), 1);
        Bench.due("what flies", b.flights(), 1000);
        // its PROPOSAL sent on to 0 and 3, its PREVOTE to three; room was for one
        Bench.due("lost", b.x.count(4), 4);
        Bench.due("sent", b.x.count(3), 6 + 1 + 5);
    }

    private static void promise10Calm() {
        Bench b = new Bench(1, 0);
        Plain p = new Plain(1, 0);
        Bench.due("calm", b.x.calm(1, 0), p.calm(1, 0));
        Bench.due("ticks", b.x.count(2), 1);
        Bench.due("heights", b.x.state(0, 0), p.state(0, 0));
        b = new Bench(1, 0);
        Bench.due("nothing is so old", b.x.calm(1, 1), 0);
        Bench.due("what was sent a tick ago, but not what is sent meanwhile", b.x.calm(1, 1), 6);
        Bench.due("ticks", b.x.count(2), 2);
        Bench.due("steps", b.x.state(0, 2) + b.x.state(2, 2) + b.x.state(3, 2), 3);
        b = new Bench(1, 0);
        for (int i = 0; i < 4; i++) {
            b.x.tick();
        }
        Bench.due("four PREVOTEs, but the proposer's, for none", b.flights(), 6 + 9);
        Bench.due("the older ones alone", b.x.calm(1, 4), 6);
        Bench.due("the others later", b.x.calm(3, 4), 0);
        Bench.due("then", b.x.calm(1, 4) > 9, true);
        copies();
    }

    private static void copies() {
        Bench b = new Bench(1, 1);
        b.x.tick();
        Bench.due("a copy", b.x.copy(2), true);
        Bench.due("flies from now on", b.x.calm(1, 1), 6);
    }

    private static void promise10Refused() {
        Bench b = new Bench(1, 0);
        int[][] refused = {{0, 0}, {65, 0}, {-1, 0}, {1, -1}, {1, 10}, {Integer.MAX_VALUE, 0},
            {1, Integer.MIN_VALUE}};
        for (int[] r : refused) {
            Bench.due("calm(" + r[0] + ", " + r[1] + ")", b.x.calm(r[0], r[1]), -1);
        }
        Bench.due("ticks", b.x.count(2), 0);
        Bench.due("what flies", b.flights(), 6);
        Bench.due("the edges", b.x.calm(64, 9) >= 0, true);
        Bench.due("ticks", b.x.count(2), 64);
    }

    private static void promise10Most() {
        Bench b = new Bench(2, 0);
        Bench.due("no more than 5000", b.x.calm(64, 0), 5000);
        Bench.due("the ticks come", b.x.count(2), 64);
        Bench.due("what is left flies", b.flights() > 0, true);
    }

    private static void promise11Copy() {
        Bench b = new Bench(1, 0);
        Bench.due("none there", b.x.copy(6), false);
        Bench.due("none there", b.x.copy(-1), false);
        Bench.due("none there", b.x.copy(Integer.MIN_VALUE), false);
        Bench.due("copy", b.x.copy(1), true);
        Bench.due("what flies", b.flights(), 7);
        Bench.due("the copy", b.flight(6), b.flight(1));
        Bench.due("its sender", b.x.flying(6, 0), 1);
        Bench.due("its receiver", b.x.flying(6, 1), 2);
        Bench.due("sent", b.x.count(3), 6);
        b.fill();
        Bench.due("no room", b.x.copy(1), false);
        Bench.due("sent", b.x.count(3), 6);
        Bench.due("lost", b.x.count(4), 0);
    }

    private static void promise12Flying() {
        Bench b = new Bench(1, 0);
        for (int k = 0; k < 6; k++) {
            Bench.due("sender", b.x.flying(k, 0), 1);
            Bench.due("receiver", b.x.flying(k, 1), new int[] {0, 2, 3}[k % 3]);
            Bench.due("size", b.x.flying(k, 2), k < 3 ? 107 : 38);
        }
        int[][] refused = {{6, 0}, {-1, 0}, {0, -1}, {0, 3}, {Integer.MAX_VALUE, 1}, {0, Integer.MIN_VALUE}};
        for (int[] r : refused) {
            Bench.due("flying(" + r[0] + ", " + r[1] + ")", b.x.flying(r[0], r[1]), -1);
        }
    }

    private static void promise13Bytes() {
        Bench b = new Bench(1, 0);
        byte[] m = Bench.vote(2, 1, 1, 0, Bench.firstBlock(1, NONE, NONE));
        for (int i = 0; i < 60; i++) {
            Bench.due("bytes(3, " + i + ")", b.x.bytes(3, i), Plain.eight(m, i));
        }
        Bench.due("far behind", b.x.bytes(3, Integer.MAX_VALUE), 0);
        Bench.due("ahead", b.x.bytes(3, -1), -1);
        Bench.due("none there", b.x.bytes(6, 0), -1);
        Bench.due("none there", b.x.bytes(-1, 0), -1);
    }

    private static void promise14Tick() {
        Bench b = new Bench(1, 0);
        for (int i = 1; i <= 3; i++) {
            Bench.due("tick " + i, b.x.tick(), 0);
        }
        // the proposer is in step prevote already: its timer 0 ends without effect
        Bench.due("timer 0 of each", b.x.tick(), 4);
        Bench.due("ticks", b.x.count(2), 4);
        for (int node = 0; node < 4; node++) {
            Bench.due("step", b.x.state(node, 2), 1);
            Bench.due("timers", b.x.state(node, 7), 0);
            Bench.due("sent", b.x.state(node, 8), node == 1 ? 2 : 1);
        }
        Bench.due("what flies", b.flights(), 15);
        Bench.due("for none, in the order of nodes", b.flight(6), Bench.vote(2, 0, 1, 0, null));
        Bench.due("a tick more", b.x.tick(), 0);
    }

    private static void promise14Fall() {
        Bench b = new Bench(1, 0);
        b.x.cut(2, 1);
        b.x.crash(3);
        for (int i = 0; i < 3; i++) {
            b.x.tick();
        }
        Bench.due("the fall's own timer counts, one that is down has none", b.x.tick(), 3);
        Bench.due("it fell", b.x.state(2, 5), 0);
        Bench.due("it sent nothing", b.find(2, -1, 2), -1);
        Bench.due("the first one's PREVOTE", b.find(0, -1, 2) >= 0, true);
    }

    /** Three nodes that prevote for none: timers 1 and 2 are not needed, until a round has no quorum for none. */
    private static void promise14Rounds() {
        Bench b = new Bench(1, 0);
        for (int i = 0; i < 4; i++) {
            b.x.tick();
        }
        // 1 is for its block, 0, 2, 3 are for none: Q PREVOTEs for none make PRECOMMITs for none
        b.bring(0, 2, 2);
        Bench.due("timers of 2", b.x.state(2, 7), 0);
        b.bring(1, 2, 2);
        Bench.due("whatever for: timer 1", b.x.state(2, 7), 2);
        for (int i = 0; i < 3; i++) {
            Bench.due("tick", b.x.tick(), 0);
        }
        Bench.due("timer 1 ends", b.x.tick(), 1);
        Bench.due("step", b.x.state(2, 2), 2);
        Bench.due("PRECOMMIT for none", b.flight(b.find(2, 0, 3)), Bench.vote(3, 2, 1, 0, null));
        b.bring(0, 3, 2);
        b.bring(2, 3, 2);
        Bench.due("Q PREVOTEs for none: no timer", b.x.state(3, 2) * 10 + b.x.state(3, 7), 20);
        b.bring(3, 0, 2);
        b.bring(2, 0, 2);
        Bench.due("step of 0", b.x.state(0, 2), 2);
        b.bring(3, 2, 3);
        b.bring(0, 2, 3);
        Bench.due("Q PRECOMMITs: timer 2", b.x.state(2, 7), 4);
        for (int i = 0; i < 3; i++) {
            Bench.due("tick", b.x.tick(), 0);
        }
        Bench.due("timer 2 ends", b.x.tick(), 1);
        Bench.due("the next round", b.x.state(2, 1), 1);
        Bench.due("which is 2's own: it proposes, and prevotes", b.x.state(2, 2), 1);
        Bench.due("timer 0 is set", b.x.state(2, 7), 1);
        for (int i = 0; i < 4; i++) {
            Bench.due("a round's number more", b.x.tick(), 0);
        }
        Bench.due("a round's number more", b.x.tick(), 1);
    }
}
