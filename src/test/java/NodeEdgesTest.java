import java.util.List;

/** The boundary cases of promises 15 to 20, sentence by sentence; of each refused call that it changes nothing. */
public final class NodeEdgesTest {
    private static final int MIN = Integer.MIN_VALUE;
    private static final int MAX = Integer.MAX_VALUE;
    private static final List<byte[]> NONE = List.of();
    private static final byte[] FIRST = Bench.firstBlock(1, NONE, NONE);
    private static final int[] NO_NODES = {-1, 5, 6, 7, MIN, MAX};

    public static void main(String[] args) {
        crashNode();
        cutNode();
        cutNumber();
        restartNode();
        stateNode();
        stateWhat();
        stateTimers();
        stateSent();
        stateNotes();
        blockPlaces();
        blockEnd();
        blockLocked();
        blockMissing();
        paidWho();
        paidProof();
        ownMemory();
        manyCalls();
        Play.finish("NodeEdgesTest");
    }

    private static void crashNode() {
        Play.sentence("An honest node falls: true; false if it is down, or no such node");
        // 5 and 6 are liars
        Play p = new Play(2, 2);
        for (int node : NO_NODES) {
            p.refused(0, "crash", node);
        }
        for (int node : new int[] {0, 4}) {
            Play q = p.fork();
            q.due(1, "crash", node);
            q.due(0, "state", node, 5);
            q.refused(0, "crash", node);
            q.due(1, "restart", node);
            q.due(1, "crash", node);
        }
    }

    private static void cutNode() {
        Play.sentence("false for another k, or no such node");
        Play p = new Play(2, 2);
        for (int node : NO_NODES) {
            p.refused(0, "cut", node, 1);
            p.refused(0, "cut", node, 0);
        }
        p.fork().due(1, "cut", 0, 1);
        p.fork().due(1, "cut", 4, 1);
        p.due(1, "crash", 4);
        p.due(1, "cut", 4, 1);
        p.refused(0, "cut", 4, 1001);
    }

    private static void cutNumber() {
        Play.sentence("if k is 1 .. 1000; none is, for 0; false for another k");
        Play p = new Play(1, 1);
        // one is about to be cut, and stays so
        p.due(1, "cut", 0, 2);
        for (int k : new int[] {-1, 1001, MIN, MAX, 1256, 65536 + 1}) {
            p.refused(0, "cut", 0, k);
        }
        for (int k : new int[] {0, 1, 2, 1000}) {
            p.fork().due(1, "cut", 0, k);
        }
        p.bringOwn(1, 0, 1, 1, 0);
        p.due(1, "state", 0, 5);
        p.refused(0, "cut", 0, -1);
        p.refused(0, "cut", 0, 1001);
        p.ticks(4);
        p.bringOwn(1, 0, 2, 1, 0);
        p.tell(3, 0, Bench.vote(2, 3, 1, 0, FIRST));
        p.due(0, "state", 0, 5);
        p.due(-1, "state", 0, 3);
    }

    private static void restartNode() {
        Play.sentence("An honest node comes again: true; false if it is up, or no such node");
        Play p = new Play(2, 2);
        for (int node : NO_NODES) {
            p.refused(0, "restart", node);
        }
        p.refused(0, "restart", 0);
        p.refused(0, "restart", 4);
        p.due(1, "crash", 4);
        p.refused(0, "restart", 0);
        p.due(1, "restart", 4);
        p.refused(0, "restart", 4);
    }

    private static void stateNode() {
        Play.sentence("-1 for no such node or what");
        Play p = new Play(2, 2);
        for (int node : NO_NODES) {
            for (int what : new int[] {0, 5, 11}) {
                p.due(-1, "state", node, what);
            }
        }
        for (int what : new int[] {-1, 12, MIN, MAX}) {
            p.due(-1, "state", 0, what);
            p.due(-1, "state", 4, what);
        }
    }

    private static void stateWhat() {
        Play.sentence("0 height, 1 round, 2 step, 3 locked round, 4 valid round, 5 whether it is up, 6 payments in its pool,"
            + " 7 timers, 8 messages that it sent of this height, 9 notes, 10 sectors, 11 its proofs");
        Play p = new Play(2, 2);
        int[] want = {1, 0, 0, -1, -1, 1, 0, 1, 0, 1, 1, 0};
        int[] proposer = {1, 0, 1, -1, -1, 1, 0, 1, 2, 3, 3, 0};
        for (int what = 0; what <= 11; what++) {
            p.due(want[what], "state", 0, what);
            p.due(want[what], "state", 4, what);
            p.due(proposer[what], "state", 1, what);
        }
        p.due(1, "crash", 1);
        proposer[5] = 0;
        proposer[7] = 0;
        for (int what = 0; what <= 11; what++) {
            p.due(proposer[what], "state", 1, what);
        }
    }

    private static void stateTimers() {
        Play.sentence("7 timers that are set (1, 2, 4 for 0, 1, 2)");
        Play p = new Play(1, 1);
        p.due(1, "state", 0, 7);
        p.bringOwn(1, 0, 1, 1, 0);
        p.bringOwn(1, 0, 2, 1, 0);
        p.due(1, "state", 0, 7);
        p.tell(3, 0, Bench.vote(2, 3, 1, 0, null));
        p.due(3, "state", 0, 7);
        p.bringOwn(1, 2, 1, 1, 0);
        for (int node = 1; node <= 2; node++) {
            p.tell(3, node, Bench.vote(2, 3, 1, 0, FIRST));
        }
        p.bringOwn(1, 2, 2, 1, 0);
        p.bringOwn(2, 1, 2, 1, 0);
        p.bringOwn(1, 0, 3, 1, 0);
        p.bringOwn(2, 0, 3, 1, 0);
        p.due(3, "state", 0, 7);
        p.tell(3, 0, Bench.vote(3, 3, 1, 0, null));
        p.due(7, "state", 0, 7);
        p.due(1, "crash", 0);
        p.due(0, "state", 0, 7);
    }

    private static void stateSent() {
        Play.sentence("8 messages that it sent of this height");
        Play p = new Play(1, 1);
        p.due(0, "state", 0, 8);
        p.due(2, "state", 1, 8);
        // a payment, an ASK, what is sent on do not count: they are no message of a height that it signed
        p.due(1, "submit", 0, 0, 1, 5, 0, 1);
        p.tell(3, 0, Bench.vote(2, 3, 1, 0, FIRST));
        p.due(0, "state", 0, 8);
        p.bringOwn(1, 0, 1, 1, 0);
        p.due(1, "state", 0, 8);
        p.bringOwn(1, 0, 2, 1, 0);
        p.due(2, "state", 0, 8);
        p.until(0, 2);
        p.due(0, "state", 0, 8);
    }

    private static void stateNotes() {
        Play.sentence("9 its notes in all that were whole, 10 the sectors that it wrote to their ends in all");
        Play p = new Play(1, 1);
        p.due(1, "state", 0, 9);
        p.due(1, "state", 0, 10);
        p.due(1, "cut", 0, 1);
        p.bringOwn(1, 0, 1, 1, 0);
        p.due(1, "state", 0, 9);
        p.due(1, "state", 0, 10);
        p.due(1, "restart", 0);
        p.due(1, "state", 0, 9);
        p.due(1, "state", 0, 10);
        p.ticks(4);
        p.due(2, "state", 0, 9);
        p.due(2, "state", 0, 10);
        // in all: another height does not start anew
        p = new Play(1, 1);
        p.until(0, 2);
        p.due(6, "state", 0, 9);
        p.due(6, "state", 0, 10);
    }

    private static void blockPlaces() {
        Play.sentence("of an honest node's block at a height of its chain (1 .. 40); -1 if there is none, or i is below 0");
        Play p = new Play(2, 2);
        p.until(0, 2);
        p.due(Plain.eight(FIRST, 0), "block", 0, 1, 0);
        for (int height : new int[] {2, 3, 40, 41, 42, -2, MIN, MAX, 257, -1, 0}) {
            p.due(-1, "block", 0, height, 0);
        }
        for (int node : NO_NODES) {
            p.due(-1, "block", node, 1, 0);
        }
        for (int i : new int[] {-1, -8, MIN}) {
            p.due(-1, "block", 0, 1, i);
        }
        p.due(1, "crash", 0);
        p.due(Plain.eight(FIRST, 0), "block", 0, 1, 0);
        Play end = new Play(1, 0);
        for (int i = 0; i < 9 && end.state(0, 0) < 41; i++) {
            end.call("calm", 64, 1);
        }
        end.check("the last block", end.call("block", 0, 40, 0) >>> 48, 40);
        end.due(-1, "block", 0, 41, 0);
    }

    private static void blockEnd() {
        Play.sentence("Eight bytes from byte i on, the first one highest, 0 behind the end");
        Play p = new Play(1, 1);
        p.due(1, "submit", 2, 0, 1, 5, 0, 1);
        p.bringOwn(1, 0, 1, 1, 0);
        p.bringOwn(1, 0, 2, 1, 0);
        p.tell(3, 0, Bench.vote(2, 3, 1, 0, FIRST));
        for (int i : new int[] {0, 1, 60, 92, 93, 94, 100, 101, 102, 107, 108, 1000, 1017, 1024, MAX - 7, MAX - 6, MAX}) {
            p.due(Plain.eight(FIRST, i), "block", 0, 0, i);
            p.due(Plain.eight(FIRST, i), "block", 0, -1, i);
        }
        p.until(0, 3);
        byte[] second = Bench.block(2, 2, Bench.idOf(FIRST), Plain.part(FIRST, 35, 67), NONE,
            List.of(Bench.payment(0, 1, 5, 0, 1)));
        for (int i : new int[] {0, 1, 93, 94, 100, 101, 107, 108, 504, 512, 1000, 1017, 1024, MAX - 7, MAX}) {
            p.due(Plain.eight(FIRST, i), "block", 0, 1, i);
            p.due(Plain.eight(second, i), "block", 0, 2, i);
        }
    }

    private static void blockLocked() {
        Play.sentence("of its locked block (height 0), or of its valid one (height -1); -1 if there is none");
        Play p = new Play(1, 1);
        p.due(-1, "block", 0, 0, 0);
        p.due(-1, "block", 0, -1, 0);
        p.bringOwn(1, 0, 1, 1, 0);
        p.bringOwn(1, 0, 2, 1, 0);
        p.due(-1, "block", 0, 0, 0);
        p.tell(3, 0, Bench.vote(2, 3, 1, 0, FIRST));
        p.due(Plain.eight(FIRST, 0), "block", 0, 0, 0);
        p.due(Plain.eight(FIRST, 0), "block", 0, -1, 0);
        for (int i : new int[] {-1, -6, -7, MIN}) {
            p.due(-1, "block", 0, 0, i);
            p.due(-1, "block", 0, -1, i);
        }
        for (int node : new int[] {-1, 3, 4}) {
            p.due(-1, "block", node, 0, 0);
            p.due(-1, "block", node, -1, 0);
        }
        for (int height : new int[] {1, -2, -3, MIN, MAX}) {
            p.due(-1, "block", 0, height, 0);
        }
        p.until(0, 2);
        Play.sentence("nothing is locked or valid");
        p.due(-1, "block", 0, 0, 0);
        p.due(-1, "block", 0, -1, 0);
    }

    private static void blockMissing() {
        Play.sentence("-1 if there is none (or it does not have it)");
        Play p = Play.behind(3);
        p.due(1, "pass", 6, 0, p.find(1, 0, 7));
        p.due(7, "deliver", p.flights() - 1);
        p.bring(1, 0, 7);
        p.bring(2, 0, 7);
        p.due(8, "state", 0, 0);
        for (int height = 1; height <= 8; height++) {
            p.check("block " + height, p.call("block", 0, height, 0) != -1, height <= 2);
            p.check("path " + height, p.call("path", 0, height, 0, 0), -1);
        }
    }

    private static void paidWho() {
        Play.sentence("-1 if there is no such honest node, or no such node");
        Play p = new Play(2, 2);
        for (int node : NO_NODES) {
            p.due(-1, "paid", node, 0);
        }
        for (int signer : new int[] {-1, 7, 15, 16, MIN, MAX}) {
            p.due(-1, "paid", 0, signer);
        }
        for (int signer = 0; signer <= 6; signer++) {
            p.due(0, "paid", 0, signer);
            p.due(0, "paid", 4, signer);
        }
    }

    private static void paidProof() {
        Play.sentence("Whether a node has paid behind an honest node's chain (1), or not (0), and 2 more if that node has a"
            + " proof of this signer");
        Play p = new Play(2, 2);
        p.tell(6, 2, Plain.join(Plain.row(6), Bench.evidence(6, 2, 1, 0, null, Bench.filled(1))));
        p.due(2, "paid", 2, 6);
        p.due(0, "paid", 2, 5);
        p.due(0, "paid", 0, 6);
        p.until(2, 3);
        p.due(3, "paid", 2, 6);
        p.due(0, "paid", 2, 5);
        p.due(1, "crash", 2);
        p.due(1, "paid", 2, 6);
        p.due(1, "restart", 2);
        p.due(1, "paid", 2, 6);
        p.tell(6, 2, Plain.join(Plain.row(6), Bench.evidence(6, 3, 1, 0, null, Bench.filled(1))));
        p.due(3, "paid", 2, 6);
    }

    /** A call of a run that goes far, and its answer; its numbers are those of the run. */
    private static long step(QuorumLedger x, int run, int i) {
        switch (i % 8) {
            case 0:
                return x.submit(i % 3, i % 16, (i + run) % 16, 1 + i % 9, i / 64, 1) ? 1 : 0;
            case 1:
                return x.calm(1 + run % 2, run % 3);
            case 2:
                return x.feed(i, run, i * run, -i, run * 77) ? 1 : 0;
            case 3:
                return i % 24 == 3 ? x.crash(run % 3) ? 1 : 0 : x.hash(x.count(5), i % 4);
            case 4:
                return i % 24 == 12 ? x.restart(run % 3) ? 1 : 0 : x.bytes(i % 30, i % 40);
            case 5:
                return x.sector(i % 3, 80 + i % 16, i % 50);
            case 6:
                return x.account(i % 3, i % 16, i % 130);
            default:
                return i % 40 == 7 ? x.lie(3, run % 3, 15) ? 1 : 0 : x.block(i % 3, 1 + i % 5, i % 100);
        }
    }

    private static void ownMemory() {
        Play.sentence("All memory is the class's own");
        Play p = new Play(1, 1);
        QuorumLedger[] beside = new QuorumLedger[4];
        for (int run = 0; run < 4; run++) {
            beside[run] = new QuorumLedger(1, 1);
        }
        long[][] answers = new long[4][450];
        for (int i = 0; i < 450; i++) {
            for (int run = 0; run < 4; run++) {
                answers[run][i] = step(beside[run], run, i);
            }
        }
        for (int run = 0; run < 4; run++) {
            QuorumLedger alone = new QuorumLedger(1, 1);
            for (int i = 0; i < 450; i++) {
                p.check("call " + i + " of run " + run, answers[run][i], step(alone, run, i));
            }
            p.check("it went far", alone.state(2, 0) > 2, true);
        }
    }

    private static void manyCalls() {
        Play.sentence("An object is used for at most 512 calls after it has been made");
        // the 512th call is as good as the first one
        Play p = new Play(1, 0);
        for (int i = 0; i < 510; i++) {
            p.call("tick");
        }
        p.due(0, "tick");
        p.due(511, "count", 2);
        Play q = new Play(1, 0);
        for (int i = 0; i < 511; i++) {
            q.call("calm", 1, 1);
        }
        q.due(41, "state", 0, 0);
    }
}
