import java.lang.management.ManagementFactory;
import java.util.Random;

/** What a run makes must stay small: all its calls live in one room of some 7.3 million fields and elements. */
public final class RoomTest {
    private static final com.sun.management.ThreadMXBean BEAN =
        (com.sun.management.ThreadMXBean) ManagementFactory.getThreadMXBean();
    /** A byte is an element at most, so that so many bytes are surely no more elements. */
    private static final long MOST = 7000000;

    private static long made() {
        return BEAN.getThreadAllocatedBytes(Thread.currentThread().getId());
    }

    public static void main(String[] args) {
        calmRuns();
        readers();
        chatter();
        greatLies();
        Bench.finish("RoomTest");
    }

    private static void told(String what, long bytes) {
        System.out.println(what + " made " + bytes + " bytes");
        Bench.due(what + " stays in its room", bytes < MOST, true);
    }

    /** The greatest world, until all heights are over, with much to pay. */
    private static void calmRuns() {
        for (int liars = 0; liars <= 4; liars += 4) {
            long before = made();
            QuorumLedger x = new QuorumLedger(4, liars);
            Random random = new Random(liars);
            for (int i = 0; i < 512; i++) {
                if (i % 4 != 0) {
                    x.submit(i % 9, i % 16, (i + 3) % 16, 1, i / 16, 1);
                } else {
                    x.calm(1 + random.nextInt(5), random.nextInt(2));
                }
            }
            told("calm with " + liars + " liars, up to height " + x.state(0, 0), made() - before);
        }
    }

    /** Each call that answers from what is there, as often as there may be calls. */
    private static void readers() {
        QuorumLedger x = new QuorumLedger(1, 1);
        x.calm(20, 0);
        x.feed(1, 2, 3, 4, 5);
        for (int round = 0; round < 2; round++) {
            long before = made();
            for (int i = 0; i < 512; i++) {
                x.hash(20, i & 3);
                x.account(i % 3, i % 16, i % 100);
                x.path(i % 3, 1 + i % 8, 0, i % 50);
                x.block(i % 3, 1 + i % 8, i % 100);
                x.sector(i % 3, i % 284, i % 100);
                x.bytes(0, i % 50);
                x.flying(0, i % 3);
                x.state(i % 3, i % 12);
                x.paid(i % 3, i % 4);
                x.balance(i % 3, i % 16);
                x.count(i % 7);
                x.proof(0, 102, 110);
                x.seal(0, 20, 0);
                x.stamp(0, 0, 0);
            }
            if (round == 1) {
                told("reading", made() - before);
                Bench.due("reading makes next to nothing", made() - before < 100000, true);
            }
        }
    }

    /** Nodes that fall and come again, and ask for all that they have lost. */
    private static void chatter() {
        long before = made();
        QuorumLedger x = new QuorumLedger(4, 0);
        for (int i = 0; i < 512; i++) {
            if (i % 3 == 0) {
                x.calm(2, 0);
            } else if (i % 3 == 1) {
                x.cut(i % 13, 1 + i % 7);
                x.crash((i + 5) % 13);
            } else {
                for (int node = 0; node < 13; node++) {
                    x.restart(node);
                }
            }
        }
        told("falling, up to height " + x.state(0, 0), made() - before);
    }

    private static void greatLies() {
        long before = made();
        QuorumLedger x = new QuorumLedger(4, 4);
        for (int i = 0; i < 512; i++) {
            if (i % 12 < 10) {
                x.feed(0x01010101 * (i & 3), i, i, i, i);
            } else if (i % 12 == 10) {
                x.lie(9 + i % 4, i % 9, x.count(5));
            } else {
                x.calm(1, 1);
            }
        }
        told("great lies", made() - before);
    }
}
