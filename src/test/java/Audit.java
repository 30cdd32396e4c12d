import java.lang.reflect.Array;
import java.lang.reflect.Field;
import java.lang.reflect.Modifier;
import java.util.ArrayDeque;
import java.util.IdentityHashMap;
import java.util.Map;

/** Looks into a QuorumLedger: each message's row must know how many places have it, so that none is lost or shared. */
final class Audit {
    private static final String MESSAGE = "QuorumLedger$Message";

    private final Map<Object, Integer> holders = new IdentityHashMap<>();
    private final Map<Object, Boolean> seen = new IdentityHashMap<>();
    private final Map<Object, Boolean> free = new IdentityHashMap<>();
    private final ArrayDeque<Object> open = new ArrayDeque<>();

    /** How many messages have another number of users than places that have them. */
    static int faults(QuorumLedger x) {
        try {
            Audit audit = new Audit();
            audit.walk(x);
            return audit.count();
        } catch (IllegalAccessException e) {
            throw new IllegalStateException(e);
        }
    }

    private void walk(Object root) throws IllegalAccessException {
        visit(root);
        while (!open.isEmpty()) {
            Object at = open.remove();
            if (at.getClass().isArray()) {
                for (int i = 0; i < Array.getLength(at); i++) {
                    reach(Array.get(at, i), "");
                }
                continue;
            }
            for (Field f : at.getClass().getDeclaredFields()) {
                if (!Modifier.isStatic(f.getModifiers()) && !f.getType().isPrimitive()) {
                    f.setAccessible(true);
                    reach(f.get(at), f.getName());
                }
            }
        }
    }

    private void reach(Object to, String by) {
        if (to == null) {
            return;
        }
        if (to.getClass().getName().equals(MESSAGE)) {
            if (by.equals("smallRows") || by.equals("greatRows") || by.equals("next")) {
                free.put(to, true);
            } else {
                holders.merge(to, 1, Integer::sum);
            }
        }
        visit(to);
    }

    private void visit(Object at) {
        Class<?> type = at.getClass();
        boolean rows = type.isArray() && !type.getComponentType().isPrimitive();
        if ((rows || type.getName().startsWith("QuorumLedger")) && seen.put(at, true) == null) {
            open.add(at);
        }
    }

    private int count() throws IllegalAccessException {
        int faults = 0;
        for (Object at : seen.keySet()) {
            if (at.getClass().getName().equals(MESSAGE)) {
                int held = holders.getOrDefault(at, 0);
                boolean fine = number(at, "users") == held && free.containsKey(at) == (held == 0);
                faults += fine ? 0 : 1;
            }
        }
        return faults;
    }

    private static int number(Object at, String name) throws IllegalAccessException {
        try {
            Field f = at.getClass().getDeclaredField(name);
            f.setAccessible(true);
            return f.getInt(at);
        } catch (NoSuchFieldException e) {
            throw new IllegalStateException(e);
        }
    }
}
