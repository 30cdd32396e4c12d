import java.lang.reflect.Method;
import java.util.Arrays;
import java.util.HashMap;
import java.util.Map;
import java.util.Random;

/** A QuorumLedger and a Plain beside it: each call goes to both, and they must answer the same. */
final class Pair {
    private static final Map<String, Method> LEDGER = methods(QuorumLedger.class);
    private static final Map<String, Method> PLAIN = methods(Plain.class);

    final QuorumLedger ledger;
    final Plain plain;
    private final StringBuilder calls = new StringBuilder();
    private final String name;
    int wrong;

    Pair(String name, int f, int liars) {
        this.name = name;
        ledger = new QuorumLedger(f, liars);
        plain = new Plain(f, liars);
        calls.append("new (").append(f).append(", ").append(liars).append(")\n");
    }

    private static Map<String, Method> methods(Class<?> type) {
        Map<String, Method> found = new HashMap<>();
        for (Method m : type.getDeclaredMethods()) {
            if (!java.lang.reflect.Modifier.isStatic(m.getModifiers())
                && !java.lang.reflect.Modifier.isPrivate(m.getModifiers())) {
                m.setAccessible(true);
                found.put(m.getName(), m);
            }
        }
        return found;
    }

    private static long answer(Method m, Object on, int[] args) {
        Object[] boxed = new Object[args.length];
        for (int i = 0; i < args.length; i++) {
            boxed[i] = args[i];
        }
        try {
            Object a = m.invoke(on, boxed);
            return a instanceof Boolean ? ((Boolean) a ? 1 : 0) : ((Number) a).longValue();
        } catch (ReflectiveOperationException e) {
            throw new IllegalStateException(m.getName() + " failed: " + e.getCause(), e);
        }
    }

    long call(String method, int... args) {
        StringBuilder told = new StringBuilder(method).append('(');
        for (int i = 0; i < args.length; i++) {
            told.append(i == 0 ? "" : ", ").append(args[i]);
        }
        told.append(')');
        long due = answer(PLAIN.get(method), plain, args);
        long got;
        try {
            got = answer(LEDGER.get(method), ledger, args);
        } catch (IllegalStateException e) {
            System.out.println(name + ": " + told + " failed: " + e.getMessage() + "\n" + calls);
            throw e;
        }
        calls.append(told).append(" = ").append(due).append('\n');
        if (got != due) {
            wrong++;
            if (wrong == 1) {
                System.out.println(name + ": " + told + " answered " + got + ", due is " + due + " behind\n" + calls);
            }
        }
        return due;
    }

    /** Looks at what all nodes have, and some of what flies and stands in logs. */
    void compare(Random random) {
        for (int what = -1; what <= 7; what++) {
            call("count", what);
        }
        int nodes = (int) call("count", 1);
        int honest = nodes - (int) call("count", 6);
        for (int node = 0; node < honest; node++) {
            for (int what = 0; what <= 11; what++) {
                call("state", node, what);
            }
            for (int s = 0; s < 284; s++) {
                if (s < 4 || s >= 280 || random.nextInt(4) == 0) {
                    call("sector", node, s, random.nextInt(140));
                }
            }
            for (int s = 0; s < nodes; s++) {
                call("paid", node, s);
            }
            for (int a = 0; a < 16; a++) {
                call("balance", node, a);
                call("account", node, a, random.nextInt(140));
            }
            for (int h = -1; h <= 41; h++) {
                call("block", node, h, random.nextInt(120));
                call("path", node, h, random.nextInt(4), random.nextInt(70));
            }
        }
        agree(honest);
        int faults = Audit.faults(ledger);
        if (faults > 0) {
            wrong++;
            System.out.println(name + ": " + faults + " messages have another number of users, behind\n" + calls);
        }
        int flying = (int) call("count", 0);
        for (int i = 0; i < 30 && flying > 0; i++) {
            int k = random.nextInt(flying);
            for (int what = 0; what < 3; what++) {
                call("flying", k, what);
            }
            call("bytes", k, 0);
            call("bytes", k, random.nextInt(120));
        }
    }

    /** What the nodes are for: one chain, no honest node proven or made to pay, and money that stays. */
    private void agree(int honest) {
        long[][] chain = new long[41][];
        for (int node = 0; node < honest; node++) {
            int sum = 0;
            for (int a = 0; a < 16; a++) {
                sum += ledger.balance(node, a);
            }
            holds(sum == 16000, "the accounts of node " + node + " have " + sum);
            for (int s = 0; s < honest; s++) {
                holds(ledger.paid(node, s) == 0, "node " + s + " is honest, and node " + node + " has it otherwise");
            }
            for (int h = 1; h <= 40; h++) {
                if (ledger.state(node, 0) > h && ledger.block(node, h, 0) != -1) {
                    long[] head = head(node, h);
                    holds(chain[h] == null || Arrays.equals(chain[h], head), "two blocks are decided at height " + h);
                    chain[h] = head;
                }
            }
        }
    }

    private long[] head(int node, int height) {
        long[] head = new long[13];
        for (int i = 0; i < head.length; i++) {
            head[i] = ledger.block(node, height, Math.min(8 * i, 93));
        }
        return head;
    }

    private void holds(boolean so, String otherwise) {
        if (!so) {
            wrong++;
            System.out.println(name + ": " + otherwise + ", behind\n" + calls);
        }
    }
}
