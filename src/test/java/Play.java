import java.lang.reflect.InvocationTargetException;
import java.lang.reflect.Method;
import java.lang.reflect.Modifier;
import java.util.ArrayList;
import java.util.Arrays;
import java.util.HashMap;
import java.util.List;
import java.util.Map;
import java.util.Set;

/**
 * A script of calls on one QuorumLedger. It is kept, so that a new object can be brought to the same place: to look
 * at it without ever making more than 512 calls on one object, to go on from there in two ways, and to see that a
 * call that is refused changes nothing, neither what can be looked at now nor what comes of it later.
 */
final class Play {
    private static final int MOST_CALLS = 512;
    private static final Set<String> DOERS = Set.of("feed", "lie", "pass", "seal", "stamp", "submit", "deliver", "calm",
        "copy", "tick", "crash", "cut", "restart");
    private static final Map<String, Method> METHODS = methods();
    private static int wrong;
    private static String sentence = "";

    private static final class Call {
        final String name;
        final int[] args;

        Call(String name, int... args) {
            this.name = name;
            this.args = args;
        }

        @Override
        public String toString() {
            String told = Arrays.toString(args);
            return name + "(" + told.substring(1, told.length() - 1) + ")";
        }
    }

    final int f;
    final int liars;
    private final List<Call> script;
    private QuorumLedger x;
    private int used;
    /** What refused() saw without the call, until the script goes on. */
    private List<List<Long>> without;

    Play(int f, int liars) {
        this(f, liars, new ArrayList<>());
    }

    private Play(int f, int liars, List<Call> script) {
        this.f = f;
        this.liars = liars;
        this.script = script;
        renew();
    }

    /** Thirteen nodes, four of them liars, and 999 messages that fly: one more has room. */
    static Play nearlyFull() {
        Play p = new Play(4, 4);
        for (int i = 0; i < 81; i++) {
            p.due(1, "submit", i % 3, 0, 1, 1 + i, 0, 1);
        }
        for (int i = 0; i < 3; i++) {
            p.due(1, "copy", i);
        }
        p.due(999, "count", 0);
        return p;
    }

    /**
     * Seven nodes, 6 is a liar; node 0 has come again at a height, when the others are so far (five heights more) that
     * they answer its ASK with a SNAPSHOT: those of 1 and 2 fly.
     */
    static Play behind(int height) {
        Play p = new Play(2, 1);
        p.until(0, height);
        p.due(1, "crash", 0);
        // accounts that are not as at first
        p.due(1, "submit", 1, 0, 15, 700, 0, 9);
        p.tell(6, 1, Plain.join(Plain.row(6), Bench.evidence(6, 2, 1, 0, null, Bench.filled(1))));
        p.until(1, height + 5);
        p.due(height + 5, "state", 2, 0);
        p.due(1, "restart", 0);
        p.bring(0, 1, 5);
        p.bring(0, 2, 5);
        return p;
    }

    private static Map<String, Method> methods() {
        Map<String, Method> found = new HashMap<>();
        for (Method m : QuorumLedger.class.getDeclaredMethods()) {
            if (Modifier.isPublic(m.getModifiers())) {
                found.put(m.getName(), m);
            }
        }
        return found;
    }

    // ---- what is told

    /** The sentence of the document that is tested from now on. */
    static void sentence(String words) {
        sentence = words;
    }

    void check(String what, long got, long want) {
        if (got != want) {
            complain(what + " is " + got + ", due is " + want);
        }
    }

    void check(String what, boolean got, boolean want) {
        check(what, got ? 1 : 0, want ? 1 : 0);
    }

    void check(String what, byte[] got, byte[] want) {
        if (!Arrays.equals(got, want)) {
            complain(what + " is " + Arrays.toString(got) + ", due is " + Arrays.toString(want));
        }
    }

    private void complain(String what) {
        wrong++;
        if (wrong <= 20) {
            System.out.println("\"" + sentence + "\"\n  " + what + "\n  behind new (" + f + ", " + liars + ") "
                + (script.size() <= 60 ? script.toString() : script.size() + " calls"));
        }
    }

    static void finish(String name) {
        System.out.println(name + ": " + (wrong == 0 ? "all answers are as due" : wrong + " answers are not as due"));
        if (wrong != 0) {
            System.exit(1);
        }
    }

    // ---- calls

    private static long answer(QuorumLedger on, Call c) {
        Object[] boxed = new Object[c.args.length];
        for (int i = 0; i < boxed.length; i++) {
            boxed[i] = c.args[i];
        }
        try {
            Object a = METHODS.get(c.name).invoke(on, boxed);
            return a instanceof Boolean ? ((Boolean) a ? 1 : 0) : ((Number) a).longValue();
        } catch (InvocationTargetException | IllegalAccessException e) {
            throw new IllegalStateException(c + " failed", e);
        }
    }

    private void renew() {
        x = new QuorumLedger(f, liars);
        for (Call c : script) {
            answer(x, c);
        }
        used = script.size();
    }

    /** Makes a call; one that only looks is not kept. */
    long call(String name, int... args) {
        Call c = new Call(name, args);
        boolean does = DOERS.contains(name);
        if (used >= MOST_CALLS) {
            renew();
        }
        if (does && script.size() >= MOST_CALLS) {
            throw new IllegalStateException("a script of more than " + MOST_CALLS + " calls");
        }
        used++;
        long got = answer(x, c);
        if (does) {
            script.add(c);
            without = null;
        }
        return got;
    }

    void due(long want, String name, int... args) {
        int at = script.size();
        long got = call(name, args);
        if (got != want) {
            complain(new Call(name, args) + ", call " + at + ", answered " + got + ", due is " + want);
        }
    }

    /** Another one that goes on from here. */
    Play fork() {
        return new Play(f, liars, new ArrayList<>(script));
    }

    /** A call that is refused: its answer, and that nothing is changed by it. */
    void refused(long want, String name, int... args) {
        Call c = new Call(name, args);
        Play other = fork();
        long got = other.call(name, args);
        if (got != want) {
            complain(c + " answered " + got + ", due is " + want);
            return;
        }
        if (without == null) {
            without = later();
        }
        if (!without.equals(other.later())) {
            complain(c + " was refused, but changed something");
        }
    }

    /** What can be looked at now, when all that flies has come, and when time has passed. */
    private List<List<Long>> later() {
        List<List<Long>> all = new ArrayList<>();
        all.add(picture());
        Play busy = fork();
        for (int node = 0; node < busy.honest(); node++) {
            busy.call("restart", node);
        }
        busy.call("calm", 4, 0);
        all.add(busy.picture());
        Play slow = fork();
        slow.call("calm", 7, 2);
        all.add(slow.picture());
        return all;
    }

    private List<Long> picture() {
        List<Long> all = new ArrayList<>();
        for (int what = 0; what <= 6; what++) {
            all.add(call("count", what));
        }
        for (int k = 0; k < 4; k++) {
            all.add(call("hash", (int) call("count", 5), k));
        }
        int flying = flights();
        for (int k = 0; k < flying; k += k < 20 || k >= flying - 20 ? 1 : 37) {
            all.add(call("flying", k, 0));
            all.add(call("flying", k, 1));
            int size = (int) call("flying", k, 2);
            for (int i = 0; i <= size; i += 8) {
                all.add(call("bytes", k, i));
            }
        }
        for (int node = 0; node < honest(); node++) {
            pictureOf(node, all);
        }
        return all;
    }

    private void pictureOf(int node, List<Long> all) {
        for (int what = 0; what <= 11; what++) {
            all.add(call("state", node, what));
        }
        for (int k = 0; k < 16; k++) {
            all.add(call("account", node, k, 0));
        }
        for (int k = 0; k < nodes(); k++) {
            all.add(call("paid", node, k));
        }
        for (int height = -1; height <= call("state", node, 0) && height <= 40; height++) {
            all.add(call("block", node, height, 0));
            all.add(call("block", node, height, 93));
            all.add(call("block", node, height, 67));
        }
        for (int s = 0; s < 284; s++) {
            long first = call("sector", node, s, 0);
            all.add(first);
            for (int i = 8; first != -1 && i < 128; i += 8) {
                all.add(call("sector", node, s, i));
            }
        }
    }

    // ---- hands

    int nodes() {
        return (int) call("count", 1);
    }

    int honest() {
        return nodes() - (int) call("count", 6);
    }

    int flights() {
        return (int) call("count", 0);
    }

    int state(int node, int what) {
        return (int) call("state", node, what);
    }

    /** Bytes come behind the tape, and 0s up to the next 20. */
    void put(byte[] m) {
        for (int at = 0; at < m.length; at += 20) {
            int[] v = new int[5];
            for (int i = 0; i < 20; i++) {
                v[i / 4] = v[i / 4] << 8 | (at + i < m.length ? m[at + i] & 255 : 0);
            }
            due(1, "feed", v);
        }
    }

    /** A liar sends bytes; whether it may. */
    boolean lie(int liar, int to, byte[] m) {
        put(m);
        return call("lie", liar, to, m.length) == 1;
    }

    /** A liar sends bytes, which are delivered at once. */
    void tell(int liar, int to, byte[] m) {
        check("the lie", lie(liar, to, m), true);
        due(m[0] & 255, "deliver", flights() - 1);
    }

    byte[] flight(int k) {
        byte[] m = new byte[Math.max(0, (int) call("flying", k, 2))];
        for (int i = 0; i < m.length; i += 8) {
            byte[] eight = Bench.bytesOf(call("bytes", k, i));
            System.arraycopy(eight, 0, m, i, Math.min(8, m.length - i));
        }
        return m;
    }

    /** What the tape holds; the last node must be a liar. */
    byte[] tape() {
        Play other = fork();
        other.due(1, "lie", nodes() - 1, 0, (int) call("count", 5));
        return other.flight(other.flights() - 1);
    }

    /** Bytes of a block, a sector, a path: eight at a time, by the call's last argument. */
    byte[] read(int size, String name, int... args) {
        byte[] m = new byte[size];
        int[] all = Arrays.copyOf(args, args.length + 1);
        for (int i = 0; i < size; i += 8) {
            all[args.length] = i;
            byte[] eight = Bench.bytesOf(call(name, all));
            System.arraycopy(eight, 0, m, i, Math.min(8, size - i));
        }
        return m;
    }

    /** Where the first message flies of a sender, a receiver, a kind (-1: any); -1 if none. */
    int find(int from, int to, int kind) {
        int flying = flights();
        for (int k = 0; k < flying; k++) {
            boolean ends = (from < 0 || call("flying", k, 0) == from) && (to < 0 || call("flying", k, 1) == to);
            if (ends && (kind < 0 || call("bytes", k, 0) >>> 56 == kind)) {
                return k;
            }
        }
        return -1;
    }

    /** Where the first PROPOSAL or vote flies to a node as its signer sent it; -1 if none. */
    int findOwn(int from, int to, int kind, int height, int round) {
        int flying = flights();
        for (int k = 0; k < flying; k++) {
            long v = call("bytes", k, 0);
            boolean same = v >>> 56 == kind && (v >>> 48 & 255) == from && (v >>> 32 & 65535) == height
                && (v >>> 24 & 255) == round;
            if (same && call("flying", k, 0) == from && call("flying", k, 1) == to) {
                return k;
            }
        }
        return -1;
    }

    void bring(int from, int to, int kind) {
        int k = find(from, to, kind);
        check("a message of kind " + kind + " flies from " + from + " to " + to, k >= 0, true);
        call("deliver", k);
    }

    void bringOwn(int from, int to, int kind, int height, int round) {
        int k = findOwn(from, to, kind, height, round);
        check("kind " + kind + " of " + height + "/" + round + " flies from " + from + " to " + to, k >= 0, true);
        call("deliver", k);
    }

    void ticks(int n) {
        for (int i = 0; i < n; i++) {
            call("tick");
        }
    }

    /** What was sent a tick ago comes, tick by tick, until a node is at a height. */
    void until(int node, int height) {
        for (int i = 0; i < 300 && state(node, 0) < height; i++) {
            call("calm", 1, 1);
        }
        check("the height of " + node, state(node, 0), height);
    }

    /**
     * The round of all honest nodes passes, whose PROPOSAL comes too late: they wait for their timers 0, then each
     * vote comes at once.
     */
    void passRound() {
        int round = state(0, 1);
        int wait = 4 + round;
        // what was sent nine ticks ago has not yet come
        call("calm", Math.min(9, wait), 9);
        ticks(wait - Math.min(9, wait));
        for (int i = 0; i < 3 && state(0, 1) == round; i++) {
            call("calm", wait, 0);
        }
    }

    /** What flies from a place on: from whom, to whom, which bytes, and nothing behind it. */
    void sent(int at, int from, byte[] m, int... to) {
        check("what flies", flights(), at + to.length);
        for (int i = 0; i < to.length; i++) {
            check("the sender", call("flying", at + i, 0), from);
            check("the receiver", call("flying", at + i, 1), to[i]);
            check("the message", flight(at + i), m);
        }
    }
}
