import java.io.DataInputStream;
import java.io.IOException;
import java.io.InputStream;
import java.util.ArrayList;
import java.util.HashMap;
import java.util.LinkedHashMap;
import java.util.LinkedHashSet;
import java.util.List;
import java.util.Map;
import java.util.Set;
import java.util.TreeSet;

/** What LANGUAGE.md says of calls: no recursion here, at most eight deep, of the library only what it lists, no throw. */
public final class BytecodeTest {
    private static final int DEEPEST = 8;
    private static final Set<String> LIBRARY = Set.of("java/lang/Object.<init>", "java/lang/System.arraycopy",
        "java/util/Arrays.fill", "java/lang/Math.min", "java/lang/Math.max", "java/lang/Long.compareUnsigned");

    private final Map<String, Set<String>> calls = new LinkedHashMap<>();
    private final Set<String> library = new TreeSet<>();
    private final Map<String, Integer> depths = new HashMap<>();

    public static void main(String[] args) throws IOException {
        BytecodeTest test = new BytecodeTest();
        test.read("QuorumLedger");
        for (Class<?> inside : QuorumLedger.class.getDeclaredClasses()) {
            test.read(inside.getName());
        }
        test.library.removeAll(LIBRARY);
        Bench.due("of the library, " + test.library, test.library.size(), 0);
        int deepest = 0;
        for (String method : test.calls.keySet()) {
            if (method.startsWith("QuorumLedger.")) {
                int depth = test.depth(method, new ArrayList<>());
                Bench.due(method + " goes " + depth + " deep", depth > DEEPEST, false);
                deepest = Math.max(deepest, depth);
            }
        }
        Bench.due("calls were found", deepest > 3, true);
        Bench.finish("BytecodeTest");
    }

    private int depth(String method, List<String> above) {
        Integer known = depths.get(method);
        if (known != null) {
            return known;
        }
        if (above.contains(method)) {
            Bench.due(method + " calls itself, by way of " + above, true, false);
            return 0;
        }
        above.add(method);
        int deepest = 0;
        for (String callee : calls.getOrDefault(method, Set.of())) {
            deepest = Math.max(deepest, depth(callee, above));
        }
        above.remove(method);
        depths.put(method, deepest + 1);
        return deepest + 1;
    }

    private void read(String name) throws IOException {
        try (InputStream in = QuorumLedger.class.getResourceAsStream(name + ".class")) {
            readClass(name, new DataInputStream(in));
        }
    }

    private void readClass(String name, DataInputStream in) throws IOException {
        in.readInt();
        in.readInt();
        Object[] pool = readPool(in);
        in.readUnsignedShort();
        in.readUnsignedShort();
        in.readUnsignedShort();
        for (int i = in.readUnsignedShort(); i > 0; i--) {
            in.readUnsignedShort();
        }
        for (int i = in.readUnsignedShort(); i > 0; i--) {
            readMember(name, pool, in, false);
        }
        for (int i = in.readUnsignedShort(); i > 0; i--) {
            readMember(name, pool, in, true);
        }
    }

    private static Object[] readPool(DataInputStream in) throws IOException {
        Object[] pool = new Object[in.readUnsignedShort()];
        for (int i = 1; i < pool.length; i++) {
            int tag = in.readUnsignedByte();
            switch (tag) {
                case 1:
                    pool[i] = in.readUTF();
                    break;
                case 3:
                case 4:
                    in.readInt();
                    break;
                case 5:
                case 6:
                    in.readLong();
                    i++;
                    break;
                case 7:
                case 8:
                case 16:
                case 19:
                case 20:
                    pool[i] = new int[] {in.readUnsignedShort()};
                    break;
                case 15:
                    in.readUnsignedByte();
                    in.readUnsignedShort();
                    break;
                default:
                    pool[i] = new int[] {in.readUnsignedShort(), in.readUnsignedShort()};
                    break;
            }
        }
        return pool;
    }

    private static String text(Object[] pool, int index, int part) {
        int at = ((int[]) pool[index])[part];
        return pool[at] instanceof String ? (String) pool[at] : text(pool, at, 0);
    }

    private void readMember(String type, Object[] pool, DataInputStream in, boolean method) throws IOException {
        in.readUnsignedShort();
        String name = type + "." + pool[in.readUnsignedShort()] + pool[in.readUnsignedShort()];
        for (int i = in.readUnsignedShort(); i > 0; i--) {
            String attribute = (String) pool[in.readUnsignedShort()];
            byte[] content = new byte[in.readInt()];
            in.readFully(content);
            if (method && attribute.equals("Code")) {
                calls.put(name, new LinkedHashSet<>());
                readCode(name, pool, content);
            }
        }
    }

    private static int two(byte[] b, int at) {
        return (b[at] & 255) << 8 | b[at + 1] & 255;
    }

    private static int four(byte[] b, int at) {
        return two(b, at) << 16 | two(b, at + 2);
    }

    private void readCode(String method, Object[] pool, byte[] content) {
        int end = 8 + four(content, 4);
        Bench.due(method + " catches", two(content, end), 0);
        int at = 8;
        while (at < end) {
            int code = content[at] & 255;
            if (code >= 182 && code <= 185) {
                int[] ref = (int[]) pool[two(content, at + 1)];
                String owner = text(pool, ref[0], 0);
                String name = text(pool, ref[1], 0);
                if (owner.startsWith("QuorumLedger")) {
                    calls.get(method).add(owner + "." + name + text(pool, ref[1], 1));
                } else {
                    library.add(owner + "." + name);
                }
            }
            Bench.due(method + " throws", code == 191, false);
            Bench.due(method + " calls what is made at run time", code == 186, false);
            at += size(content, at, code);
        }
    }

    private static int size(byte[] b, int at, int code) {
        if (code == 170 || code == 171) {
            int table = at + 4 - (at - 8) % 4;
            int many = code == 170 ? four(b, table + 8) - four(b, table + 4) + 1 : four(b, table + 4);
            return table - at + (code == 170 ? 12 + 4 * many : 8 + 8 * many);
        }
        if (code == 196) {
            return (b[at + 1] & 255) == 132 ? 6 : 4;
        }
        if (code == 16 || code == 18 || code >= 21 && code <= 25 || code >= 54 && code <= 58 || code == 169
            || code == 188) {
            return 2;
        }
        if (code == 17 || code == 19 || code == 20 || code == 132 || code >= 153 && code <= 168
            || code >= 178 && code <= 184 || code == 187 || code == 189 || code == 192 || code == 193 || code == 198
            || code == 199) {
            return 3;
        }
        return code == 197 ? 4 : code == 185 || code == 186 || code == 200 || code == 201 ? 5 : 1;
    }
}
