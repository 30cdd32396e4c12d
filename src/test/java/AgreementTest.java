import java.util.Random;

/** Long runs of calls by chance, each held against the plain model. */
public final class AgreementTest {
    private final Random random;
    private final Pair pair;
    private final int nodes;
    private final int honest;

    private AgreementTest(long seed) {
        random = new Random(seed);
        int f = random.nextInt(6) == 0 ? 2 + random.nextInt(3) : random.nextInt(3) == 0 ? 2 : 1;
        int liars = random.nextInt(4) == 0 ? 0 : random.nextInt(f + 1);
        if (random.nextInt(3) == 0) {
            liars = f;
        }
        pair = new Pair("seed " + seed, f, liars);
        nodes = 3 * f + 1;
        honest = nodes - liars;
    }

    private int node() {
        return random.nextInt(honest);
    }

    private int flying() {
        return (int) pair.call("count", 0);
    }

    private int someFlight() {
        int n = flying();
        return n == 0 ? 0 : random.nextInt(n);
    }

    private void feed(byte[] m) {
        for (int at = 0; at < m.length; at += 20) {
            int[] v = new int[5];
            for (int i = 0; i < 20; i++) {
                v[i / 4] = v[i / 4] << 8 | (at + i < m.length ? m[at + i] & 255 : 0);
            }
            pair.call("feed", v);
        }
    }

    /** Empties the tape, so that the next message stands at its start. */
    private void wipe() {
        if (pair.call("count", 5) > 0 && honest < nodes && flying() < 1000) {
            feed(new byte[1]);
            pair.call("lie", honest, 0, 1);
        }
    }

    private byte[] payments(int many, int near) {
        byte[] rows = new byte[0];
        int[] made = new int[16];
        for (int i = 0; i < many; i++) {
            int from = random.nextInt(4) + (random.nextInt(10) == 0 ? 12 : 0);
            int to = random.nextInt(16);
            if (to == from) {
                to = (from + 1) % 16;
            }
            long state = pair.call("account", near, from, 0);
            int nonce = (int) (state >> 24) & 65535;
            nonce += made[from] + (random.nextInt(12) == 0 ? 1 : 0);
            made[from]++;
            int amount = random.nextInt(15) == 0 ? 1000 : 1 + random.nextInt(30);
            rows = Plain.join(rows, Plain.row(from, to, amount >> 8, amount, nonce >> 8, nonce, 1 + random.nextInt(9)));
        }
        return rows;
    }

    private byte[] evidence(int signer) {
        int kind = 1 + random.nextInt(3);
        byte[] one = new byte[32];
        byte[] two = new byte[32];
        random.nextBytes(one);
        random.nextBytes(two);
        if (random.nextInt(10) != 0 && java.util.Arrays.compareUnsigned(one, two) > 0) {
            byte[] t = one;
            one = two;
            two = t;
        }
        byte[] first = random.nextInt(3) == 0 ? Plain.row(0) : Plain.join(Plain.row(1), one);
        int height = 1 + random.nextInt(random.nextInt(9) == 0 ? 43 : 5);
        return Plain.join(Plain.row(signer, kind, 0, height, random.nextInt(random.nextInt(9) == 0 ? 20 : 4)), first,
            Plain.row(1), two);
    }

    private int liar() {
        return honest < nodes ? honest + random.nextInt(nodes - honest) : honest;
    }

    private int heightNear(int node) {
        int h = (int) pair.call("state", node, 0);
        int shift = random.nextInt(12);
        return Math.max(0, shift == 0 ? h - 1 : shift == 1 ? h + 1 : shift == 2 ? h + 2 : shift == 3 ? h - 5 : h);
    }

    private int roundNear(int node) {
        int r = (int) pair.call("state", node, 1);
        int shift = random.nextInt(6);
        return Math.max(0, shift == 0 ? r + 1 : shift == 1 ? r - 1 : shift == 2 ? random.nextInt(18) : r);
    }

    /** A block stands on the tape from byte at on; sealed for a node. Where it ends. */
    private int blockOnTape(byte[] before, int height, int near) {
        byte[] head = new byte[101];
        head[0] = (byte) (height >> 8);
        head[1] = (byte) height;
        head[2] = (byte) random.nextInt(nodes + (random.nextInt(20) == 0 ? 1 : 0));
        int evidences = random.nextInt(4) == 0 ? random.nextInt(4) : 0;
        head[100] = (byte) evidences;
        byte[] rest = new byte[0];
        for (int e = 0; e < evidences && e < 2; e++) {
            rest = Plain.join(rest, evidence(random.nextInt(4) == 0 ? random.nextInt(nodes) : liar()));
        }
        int many = random.nextInt(25) == 0 ? 60 + random.nextInt(6) : random.nextInt(4);
        rest = Plain.join(rest, payments(many, near));
        wipe();
        feed(Plain.join(before, head, rest));
        int end = before.length + 101 + rest.length + (random.nextInt(25) == 0 ? 1 : 0);
        pair.call("seal", before.length, end, random.nextInt(15) == 0 ? -1 : near);
        return end;
    }

    private void lieTo(int n) {
        int liar = liar();
        int to = random.nextInt(nodes);
        if (pair.call("lie", liar, to, n) == 1) {
            int others = random.nextInt(nodes + 1);
            for (int i = 0; i < others; i++) {
                pair.call("pass", liar(), random.nextInt(nodes), flying() - 1);
            }
            if (random.nextInt(2) == 0) {
                pair.call("deliver", flying() - 1);
            }
        }
    }

    private void lieProposal() {
        int near = node();
        int height = heightNear(near);
        int round = roundNear(near);
        int signer = random.nextInt(3) == 0 ? liar() : (height + round) % nodes;
        if (signer < honest) {
            for (int r = 0; r < nodes && signer < honest; r++) {
                round = r;
                signer = (height + r) % nodes;
            }
        }
        int valid = random.nextInt(3) == 0 ? random.nextInt(17) : 255;
        int end = blockOnTape(Plain.row(1, signer, height >> 8, height, round, valid), height, near);
        lieTo(end);
    }

    private void lieDecided() {
        int near = node();
        int height = heightNear(near);
        if (random.nextInt(2) == 0) {
            byte[] b = new byte[700];
            int h = random.nextInt(3) == 0 ? -random.nextInt(2) : height;
            for (int i = 0; i < 700; i += 8) {
                long v = pair.call("block", near, h, i);
                for (int j = 0; j < 8 && i + j < 700; j++) {
                    b[i + j] = (byte) (v >> 56 - 8 * j);
                }
            }
            int size = 101 + 7 * (b[99] & 255);
            if (b[100] == 0 && size <= 700) {
                wipe();
                feed(Plain.join(Plain.row(4), Plain.part(b, 0, size)));
                lieTo(1 + size);
            }
            return;
        }
        lieTo(blockOnTape(Plain.row(4), height, near));
    }

    private void lieVote() {
        int near = node();
        int height = heightNear(near);
        int round = roundNear(near);
        int kind = 2 + random.nextInt(2);
        int signer = random.nextInt(20) == 0 ? node() : liar();
        boolean none = random.nextInt(3) == 0;
        wipe();
        feed(Plain.join(Plain.row(kind, signer, height >> 8, height, round, none ? 0 : 1), new byte[32]));
        if (!none) {
            int tries = Math.min(20, flying());
            for (int i = 0; i < tries; i++) {
                if (pair.call("stamp", 6, someFlight(), 0) == 1) {
                    break;
                }
            }
        }
        lieTo(none ? 6 : 38);
    }

    private void lieSnapshot() {
        int near = node();
        int height = random.nextInt(6) == 0 ? 1 + random.nextInt(43) : heightNear(near) + random.nextInt(3);
        byte[] m = Plain.join(Plain.row(7, height >> 8, height), new byte[112]);
        for (int k = 0; k < 16; k++) {
            int has = random.nextInt(30) == 0 ? 16000 + random.nextInt(2) : 1000;
            m[35 + 5 * k] = (byte) (has >> 8);
            m[36 + 5 * k] = (byte) has;
        }
        wipe();
        feed(m);
        lieTo(115);
    }

    private void lieOther() {
        wipe();
        int kind = random.nextInt(4);
        if (kind == 0) {
            int h = heightNear(node());
            feed(Plain.row(5, h >> 8, h));
            lieTo(3);
        } else if (kind == 1) {
            byte[] e = evidence(random.nextInt(3) == 0 ? random.nextInt(nodes + 1) : liar());
            feed(Plain.join(Plain.row(6), e));
            lieTo(1 + e.length);
        } else if (kind == 2) {
            feed(Plain.join(Plain.row(0), payments(1, node())));
            lieTo(8);
        } else {
            byte[] junk = new byte[1 + random.nextInt(200)];
            random.nextBytes(junk);
            junk[0] = (byte) random.nextInt(10);
            feed(junk);
            lieTo(1 + random.nextInt(junk.length));
        }
    }

    private void lieSomething() {
        if (honest == nodes) {
            return;
        }
        switch (random.nextInt(8)) {
            case 0:
            case 1:
                lieProposal();
                break;
            case 2:
                lieDecided();
                break;
            case 3:
            case 4:
                lieVote();
                break;
            case 5:
                lieSnapshot();
                break;
            case 6:
                lieOther();
                break;
            default:
                pair.call("pass", liar(), random.nextInt(nodes), someFlight());
                break;
        }
    }

    private void outside() {
        int near = node();
        int from = random.nextInt(16);
        long state = pair.call("account", near, from, 0);
        int nonce = ((int) (state >> 24) & 65535) + (random.nextInt(4) == 0 ? random.nextInt(4) : 0);
        pair.call("submit", random.nextInt(nodes), from, random.nextInt(16), 1 + random.nextInt(40), nonce,
            1 + random.nextInt(9));
    }

    /** A node is down while the others go on; when it comes again, it must take what they have. */
    private void leaveBehind() {
        int behind = node();
        pair.call("crash", behind);
        for (int i = random.nextInt(4); i >= 0; i--) {
            pair.call("calm", 1 + random.nextInt(12), random.nextInt(2));
        }
        if (random.nextInt(3) == 0) {
            pair.call("cut", behind, 1 + random.nextInt(3));
        }
        pair.call("restart", behind);
        for (int i = random.nextInt(60); i >= 0; i--) {
            pair.call("deliver", random.nextInt(3) == 0 ? someFlight() : 0);
        }
    }

    /** So many payments to one node that its block needs two sectors. */
    private void payMuch() {
        int to = random.nextInt(nodes);
        int near = to < honest ? to : 0;
        int[] nonces = new int[16];
        for (int a = 0; a < 16; a++) {
            nonces[a] = (int) (pair.call("account", near, a, 0) >> 24) & 65535;
        }
        for (int i = 10 + random.nextInt(80); i >= 0; i--) {
            int from = random.nextInt(16);
            int amount = random.nextInt(9) == 0 ? 900 : 1 + random.nextInt(20);
            pair.call("submit", to, from, (from + 1 + random.nextInt(15)) % 16, amount, nonces[from], 1);
            nonces[from]++;
        }
    }

    /** Some kinds of messages, or those of some nodes, are late, while time goes on. */
    private void starve() {
        int kinds = random.nextInt(256);
        int receivers = random.nextInt(1 << nodes);
        int rounds = random.nextInt(4) == 0 ? random.nextInt(65536) : 65535;
        for (int i = 10 + random.nextInt(60); i >= 0; i--) {
            int flying = flying();
            int start = flying == 0 ? 0 : random.nextInt(flying);
            int found = -1;
            for (int j = 0; j < 40 && j < flying && found < 0; j++) {
                int k = (start + j) % flying;
                long v = pair.ledger.bytes(k, 0);
                boolean kind = (kinds >> (int) (v >>> 56 & 7) & 1) == 1;
                boolean receiver = (receivers >> pair.ledger.flying(k, 1) & 1) == 1;
                boolean round = (rounds >> (int) (v >>> 24 & 15) & 1) == 1;
                found = kind && receiver && round ? k : -1;
            }
            if (found >= 0) {
                pair.call("deliver", found);
            } else {
                pair.call("tick");
            }
        }
    }

    private void oddCall() {
        switch (random.nextInt(9)) {
            case 0:
                pair.call("hash", random.nextInt(60) - 2, random.nextInt(6) - 1);
                break;
            case 1:
                pair.call("proof", random.nextInt(3), 100 + random.nextInt(20), 100 + random.nextInt(100));
                break;
            case 2:
                pair.call("seal", random.nextInt(40) - 2, random.nextInt(200), random.nextInt(nodes + 2) - 1);
                break;
            case 3:
                pair.call("stamp", random.nextInt(60) - 2, random.nextInt(10) - 2, random.nextInt(40) - 2);
                break;
            case 4:
                pair.call("copy", random.nextInt(3) == 0 ? -1 : someFlight());
                break;
            case 5:
                pair.call("feed", random.nextInt(), random.nextInt(), random.nextInt(), random.nextInt(), 0);
                break;
            case 6:
                pair.call("cut", random.nextInt(nodes + 1) - 1, random.nextInt(1003) - 1);
                break;
            case 7:
                pair.call("deliver", random.nextInt(1100) - 50);
                break;
            default:
                pair.call("block", random.nextInt(nodes), random.nextInt(45) - 2, Integer.MAX_VALUE - random.nextInt(9));
                break;
        }
    }

    private void step(int[] weights) {
        int sum = 0;
        for (int w : weights) {
            sum += w;
        }
        int pick = random.nextInt(sum);
        int what = 0;
        while (pick >= weights[what]) {
            pick -= weights[what];
            what++;
        }
        switch (what) {
            case 0:
                pair.call("deliver", someFlight());
                break;
            case 1:
                for (int i = random.nextInt(30); i >= 0; i--) {
                    pair.call("deliver", 0);
                }
                break;
            case 2:
                pair.call("calm", 1 + random.nextInt(random.nextInt(10) == 0 ? 64 : 4), random.nextInt(4));
                break;
            case 3:
                pair.call("tick");
                break;
            case 4:
                outside();
                break;
            case 5:
                lieSomething();
                break;
            case 6:
                pair.call("crash", random.nextInt(nodes));
                break;
            case 7:
                pair.call("restart", random.nextInt(nodes));
                break;
            case 8:
                pair.call("cut", node(), 1 + random.nextInt(random.nextInt(3) == 0 ? 30 : 4));
                break;
            case 9:
                leaveBehind();
                break;
            case 10:
                payMuch();
                break;
            case 11:
                starve();
                break;
            default:
                oddCall();
                break;
        }
    }

    private int run(int steps) {
        int[] weights = new int[13];
        for (int i = 0; i < weights.length; i++) {
            weights[i] = random.nextInt(3) == 0 ? 0 : 1 + random.nextInt(10);
        }
        weights[0] += 3;
        weights[1] += 3;
        weights[7] += weights[6] + weights[8] / 2;
        weights[9] /= 4;
        weights[10] /= 3;
        for (int i = 0; i < steps && pair.wrong == 0; i++) {
            step(weights);
            if (i % 25 == 24) {
                pair.compare(random);
            }
        }
        pair.compare(random);
        return pair.wrong;
    }

    int top() {
        int top = 0;
        for (int i = 0; i < honest; i++) {
            top = Math.max(top, pair.ledger.state(i, 0) * 100 + pair.ledger.state(i, 1));
        }
        return top;
    }

    public static void main(String[] args) {
        long first = args.length > 0 ? Long.parseLong(args[0]) : 1;
        long runs = args.length > 1 ? Long.parseLong(args[1]) : 150;
        int steps = args.length > 2 ? Integer.parseInt(args[2]) : 200;
        int wrong = 0;
        StringBuilder tops = new StringBuilder();
        for (long seed = first; seed < first + runs && wrong < 3; seed++) {
            AgreementTest test = new AgreementTest(seed);
            wrong += test.run(steps) > 0 ? 1 : 0;
            tops.append(' ').append(test.top());
        }
        if (args.length > 0) {
            System.out.println(tops);
        }
        System.out.println(wrong == 0 ? "all runs agree" : wrong + " runs do not agree");
        if (wrong != 0) {
            System.exit(1);
        }
    }
}
