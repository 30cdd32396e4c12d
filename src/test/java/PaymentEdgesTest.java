import java.util.ArrayList;
import java.util.List;

/** The boundary cases of PAYMENTS: when a block is just VALID, and when just not, and what comes of its parts. */
public final class PaymentEdgesTest {
    private static final List<byte[]> NONE = List.of();
    private static final byte[] ID = Bench.filled(7);

    public static void main(String[] args) {
        atFirst();
        validAhead();
        validAccounts();
        validFirst();
        amounts();
        nonces();
        oneBehindTheOther();
        tips();
        evidenceOnce();
        evidenceOncePaid();
        evidenceGives();
        evidenceToItself();
        mostParts();
        Play.finish("PaymentEdgesTest");
    }

    /** Four nodes at height 3, whose first round is the liar's, who has not yet proposed. */
    private static Play atThree(int... submitted) {
        Play p = new Play(1, 1);
        for (int i = 0; i + 5 <= submitted.length; i += 5) {
            p.due(1, "submit", 2, submitted[i], submitted[i + 1], submitted[i + 2], submitted[i + 3], submitted[i + 4]);
        }
        for (int i = 0; i < 60 && (p.state(0, 0) < 3 || p.state(1, 0) < 3 || p.state(2, 0) < 3); i++) {
            p.call("calm", 1, 1);
        }
        for (int node = 0; node < 3; node++) {
            p.due(3, "state", node, 0);
            p.due(0, "state", node, 1);
            p.due(0, "state", node, 2);
        }
        return p;
    }

    /** The liar's PROPOSAL on the tape, made right for node 0: how many bytes. */
    private static int put(Play p, int maker, List<byte[]> evidences, List<byte[]> payments) {
        byte[] m = Bench.proposal(3, 3, 0, 255, Bench.block(3, maker, ID, ID, evidences, payments));
        p.put(m);
        p.due(payments.size(), "seal", 6, m.length, 0);
        return m.length;
    }

    /** Whether node 0 prevotes for what the liar's tape proposes. */
    private static boolean votesFor(Play p, int size) {
        int at = p.flights();
        p.due(1, "lie", 3, 0, size);
        p.due(1, "deliver", at);
        p.due(1, "state", 0, 2);
        // sent on to 1 and 2, then its PREVOTE to all
        byte[] vote = p.flight(at + 2);
        p.check("its PREVOTE", vote[0] * 100 + vote[1], 200);
        return vote[5] == 1;
    }

    private static void valid(String what, Play p, int maker, List<byte[]> evidences, List<byte[]> payments,
        boolean due) {
        Play q = p.fork();
        q.check(what, votesFor(q, put(q, maker, evidences, payments)), due);
    }

    /** The liar's block comes to all, and is decided. */
    private static Play decided(Play p, int maker, List<byte[]> evidences, List<byte[]> payments) {
        Play q = p.fork();
        for (int node = 0; node < 3; node++) {
            q.due(1, "lie", 3, node, put(q, maker, evidences, payments));
        }
        for (int i = 0; i < 10 && q.state(0, 0) < 4; i++) {
            q.call("calm", 1, 1);
        }
        q.due(4, "state", 0, 0);
        q.check("its maker", q.call("block", 0, 3, 2) >>> 56, maker);
        return q;
    }

    private static void atFirst() {
        Play.sentence("At first each account has 1000, and no node has PAID");
        Play p = new Play(4, 4);
        for (int node = 0; node < 9; node++) {
            for (int k = 0; k < 16; k++) {
                p.due(1000, "balance", node, k);
            }
            for (int k = 0; k < 13; k++) {
                p.due(0, "paid", node, k);
            }
        }
    }

    private static void validAhead() {
        Play.sentence("has the next height, the id of the chain's last block (or ZERO)");
        Play p = atThree();
        valid("as sealed", p, 3, NONE, NONE, true);
        for (int at : new int[] {3, 34}) {
            Play q = p.fork();
            byte[] block = Bench.block(3, 3, Bench.idOf(q.read(101, "block", 0, 2)), root(q), NONE, NONE);
            block[at] ^= 1;
            byte[] m = Bench.proposal(3, 3, 0, 255, block);
            q.put(m);
            q.check("another id ahead", votesFor(q, m.length), false);
        }
        Play q = p.fork();
        byte[] m = Bench.proposal(3, 3, 0, 255, Bench.block(3, 3, new byte[32], root(q), NONE, NONE));
        q.put(m);
        q.check("ZERO ahead", votesFor(q, m.length), false);
        q = p.fork();
        m = Bench.proposal(3, 3, 0, 255, Bench.block(3, 3, Bench.idOf(q.read(101, "block", 0, 1)), root(q), NONE, NONE));
        q.put(m);
        q.check("the block ahead of the last", votesFor(q, m.length), false);
    }

    private static byte[] root(Play p) {
        List<byte[]> lines = new ArrayList<>();
        for (int k = 0; k < 16; k++) {
            lines.add(p.read(6, "account", 0, k));
        }
        return Plain.rootOf(lines);
    }

    private static void validAccounts() {
        Play.sentence("and the root of the accounts behind it");
        Play p = atThree(0, 1, 5, 0, 1);
        for (int at : new int[] {35, 66}) {
            Play q = p.fork();
            byte[] block = Bench.block(3, 3, Bench.idOf(q.read(101, "block", 0, 2)), root(q), NONE, NONE);
            byte[] right = Bench.proposal(3, 3, 0, 255, block);
            q.put(right);
            q.check("the root", votesFor(q, right.length), true);
            block[at] ^= 1;
            byte[] m = Bench.proposal(3, 3, 0, 255, block);
            Play r = p.fork();
            r.put(m);
            r.check("another root", votesFor(r, m.length), false);
        }
        Play q = p.fork();
        byte[] old = Plain.part(Bench.firstBlock(0, NONE, NONE), 35, 67);
        byte[] m = Bench.proposal(3, 3, 0, 255, Bench.block(3, 3, Bench.idOf(q.read(101, "block", 0, 2)), old, NONE, NONE));
        q.put(m);
        q.check("the root ahead of the last block", votesFor(q, m.length), false);
    }

    /** Of the first height the id ahead is ZERO: the first proposer's own block, and one with another id. */
    private static void validFirst() {
        Play.sentence("the id of the chain's last block (or ZERO)");
        Play p = new Play(1, 1);
        p.check("ZERO ahead of the first block", Plain.part(p.flight(0), 9, 41), new byte[32]);
        p.bringOwn(1, 0, 1, 1, 0);
        p.check("node 0 is for it", p.flight(p.findOwn(0, 1, 2, 1, 0))[5], 1);
    }

    private static void amounts() {
        Play.sentence("A payment: the account has the amount and the tip");
        Play p = atThree();
        valid("999 and 1 of 1000", p, 3, NONE, List.of(Bench.payment(0, 1, 999, 0, 1)), true);
        valid("1000 and 1 of 1000", p, 3, NONE, List.of(Bench.payment(0, 1, 1000, 0, 1)), false);
        valid("991 and 9 of 1000", p, 3, NONE, List.of(Bench.payment(0, 1, 991, 0, 9)), true);
        valid("992 and 9 of 1000", p, 3, NONE, List.of(Bench.payment(0, 1, 992, 0, 9)), false);
        valid("the tip that comes back does not count", p, 0, NONE, List.of(Bench.payment(0, 1, 1000, 0, 1)), false);
        // 998 and 1 leave 1, which is no amount and a tip
        valid("nothing is left", p, 3, NONE, List.of(Bench.payment(0, 1, 998, 0, 1), Bench.payment(0, 1, 1, 1, 1)), false);
        valid("two are left", p, 3, NONE, List.of(Bench.payment(0, 1, 997, 0, 1), Bench.payment(0, 1, 1, 1, 1)), true);
        Play q = decided(p, 3, NONE, List.of(Bench.payment(0, 1, 999, 0, 1)));
        q.due(0, "balance", 0, 0);
        q.due(1999, "balance", 0, 1);
        q.due(1001, "balance", 0, 3);
    }

    private static void nonces() {
        Play.sentence("the nonce is the number of the account's payments before");
        Play p = atThree(0, 1, 5, 0, 1, 0, 1, 5, 1, 1);
        p.check("two payments of account 0", p.call("account", 0, 0, 3) >>> 48, 2);
        int[][] cases = {{0, 0, 0}, {0, 1, 0}, {0, 2, 1}, {0, 3, 0}, {0, 65535, 0}, {1, 0, 1}, {1, 1, 0}, {1, 2, 0}};
        for (int[] c : cases) {
            valid("nonce " + c[1] + " of " + c[0], p, 3, NONE, List.of(Bench.payment(c[0], 5, 1, c[1], 1)), c[2] == 1);
        }
        valid("the same twice", p, 3, NONE, List.of(Bench.payment(0, 5, 1, 2, 1), Bench.payment(0, 5, 1, 2, 1)), false);
        valid("one behind the other", p, 3, NONE, List.of(Bench.payment(0, 5, 1, 2, 1), Bench.payment(0, 5, 1, 3, 1)), true);
        valid("in another order", p, 3, NONE, List.of(Bench.payment(0, 5, 1, 3, 1), Bench.payment(0, 5, 1, 2, 1)), false);
    }

    private static void oneBehindTheOther() {
        Play.sentence("its parts can be done one behind the other");
        Play p = atThree();
        byte[] rich = Bench.payment(0, 1, 500, 0, 1);
        byte[] spends = Bench.payment(1, 2, 1000, 0, 1);
        byte[] rest = Bench.payment(1, 2, 498, 1, 1);
        byte[] all = Bench.payment(1, 2, 499, 1, 1);
        valid("what came is spent", p, 3, NONE, List.of(rich, spends, rest), true);
        valid("to the last", p, 3, NONE, List.of(rich, spends, all), false);
        valid("before it came", p, 3, NONE, List.of(spends, rich), false);
        byte[] fine = Bench.evidence(3, 2, 1, 0, null, ID);
        valid("of what is left of a fine", p, 0, List.of(fine), List.of(Bench.payment(3, 2, 899, 0, 1)), true);
        valid("more than is left of a fine", p, 0, List.of(fine), List.of(Bench.payment(3, 2, 900, 0, 1)), false);
        valid("with what a fine brought", p, 0, List.of(fine), List.of(Bench.payment(0, 2, 1000, 0, 9)), true);
        valid("without a fine", p, 0, NONE, List.of(Bench.payment(0, 2, 1000, 0, 9)), false);
    }

    private static void tips() {
        Play.sentence("the tip goes to the account of the maker's number");
        Play p = atThree();
        Play other = decided(p, 2, NONE, List.of(Bench.payment(0, 1, 10, 0, 9)));
        int[] want = {981, 1010, 1009, 1000};
        for (int k = 0; k < 4; k++) {
            other.due(want[k], "balance", 0, k);
        }
        Play own = decided(p, 0, NONE, List.of(Bench.payment(0, 1, 10, 0, 9)));
        own.due(990, "balance", 0, 0);
        own.due(1010, "balance", 0, 1);
        Play paid = decided(p, 1, NONE, List.of(Bench.payment(0, 1, 10, 0, 9)));
        paid.due(981, "balance", 0, 0);
        paid.due(1019, "balance", 0, 1);
        paid.due(1000, "balance", 0, 3);
    }

    private static void evidenceOnce() {
        Play.sentence("An evidence: its signer has not paid before (nor in this block)");
        Play p = atThree();
        byte[] one = Bench.evidence(3, 2, 1, 0, null, ID);
        byte[] two = Bench.evidence(3, 3, 2, 5, null, ID);
        valid("one", p, 0, List.of(one), NONE, true);
        valid("two of one signer", p, 0, List.of(one, two), NONE, false);
        valid("the same twice", p, 0, List.of(one, one), NONE, false);
        Play.sentence("its signer has not paid before; it has then");
        Play q = decided(p, 0, List.of(one), NONE);
        q.due(1, "paid", 0, 3);
        q.due(0, "paid", 0, 2);
        q.due(900, "balance", 0, 3);
        q.due(1100, "balance", 0, 0);
    }

    /** Who paid at height 2 does not pay again at height 3. */
    private static void evidenceOncePaid() {
        Play.sentence("its signer has not paid before");
        Play p = new Play(1, 1);
        byte[] one = Bench.evidence(3, 2, 1, 0, null, ID);
        p.tell(3, 2, Plain.join(Plain.row(6), one));
        for (int i = 0; i < 60 && (p.state(0, 0) < 3 || p.state(1, 0) < 3 || p.state(2, 0) < 3); i++) {
            p.call("calm", 1, 1);
        }
        p.due(3, "paid", 2, 3);
        p.due(0, "state", 0, 2);
        valid("nothing", p, 0, NONE, NONE, true);
        valid("the same one again", p, 0, List.of(one), NONE, false);
        valid("another one", p, 0, List.of(Bench.evidence(3, 3, 2, 0, null, ID)), NONE, false);
        // nor does an honest node put it into its blocks again
        p.until(0, 6);
        for (int height = 3; height <= 5; height++) {
            p.check("evidences of " + height, p.call("block", 0, height, 100) >>> 56, 0);
        }
        p.due(900, "balance", 0, 3);
    }

    private static void evidenceGives() {
        Play.sentence("the account of its number gives what it has, at most 100, to that of the maker's number");
        int[][] cases = {{999, 1, 0, 0}, {998, 1, 1, 1}, {900, 1, 99, 99}, {899, 1, 100, 100}, {898, 1, 101, 100},
            {1, 1, 998, 100}};
        for (int[] c : cases) {
            Play p = atThree(3, 4, c[0], 0, c[1]);
            p.due(c[2], "balance", 0, 3);
            long maker = p.call("balance", 0, 0);
            Play q = decided(p, 0, List.of(Bench.evidence(3, 2, 1, 0, null, ID)), NONE);
            q.due(c[2] - c[3], "balance", 0, 3);
            q.due(maker + c[3], "balance", 0, 0);
            q.due(1, "paid", 0, 3);
        }
    }

    private static void evidenceToItself() {
        Play.sentence("(also if that is the same)");
        Play p = atThree();
        Play q = decided(p, 3, List.of(Bench.evidence(3, 2, 1, 0, null, ID)), NONE);
        q.due(1000, "balance", 0, 3);
        q.due(1, "paid", 0, 3);
        // what it has is as before, but not its state, nor the accounts' root
        q.put(new byte[101]);
        q.due(0, "seal", 0, 101, 0);
        q.check("the accounts' root", Plain.part(q.tape(), 35, 67), root(q));
        valid("it has as much as before", p, 3, List.of(Bench.evidence(3, 2, 1, 0, null, ID)),
            List.of(Bench.payment(3, 1, 991, 0, 9)), true);
        valid("but not more", p, 3, List.of(Bench.evidence(3, 2, 1, 0, null, ID)),
            List.of(Bench.payment(3, 1, 992, 0, 9)), false);
    }

    private static void mostParts() {
        Play.sentence("how many payments (0 .. 64; one byte)");
        Play p = atThree();
        List<byte[]> all = new ArrayList<>();
        for (int i = 0; i < 64; i++) {
            all.add(Bench.payment(i % 16, (i + 1) % 16, 1, i / 16, 1));
        }
        valid("64 payments and an evidence", p, 0, List.of(Bench.evidence(3, 2, 1, 0, ID, Bench.filled(8))), all, true);
        Play q = decided(p, 0, List.of(Bench.evidence(3, 2, 1, 0, ID, Bench.filled(8))), all);
        q.check("payments of account 15", q.call("account", 0, 15, 3) >>> 48, 4);
    }
}
