import java.lang.reflect.Method;
import java.lang.reflect.Modifier;
import java.util.Arrays;
import java.util.Comparator;
import java.util.Random;

/** No call throws, or fails to end, for any arguments in any state. */
public final class NeverThrowsTest {
    private static final int[] ODD = {0, 1, -1, 2, 3, 4, 5, 7, 8, 12, 13, 15, 16, 31, 32, 40, 41, 64, 65, 101, 102, 255,
        256, 283, 284, 511, 512, 513, 999, 1000, 1001, 65535, 65536, Integer.MAX_VALUE, Integer.MAX_VALUE - 1,
        Integer.MAX_VALUE - 7, Integer.MAX_VALUE - 101, Integer.MIN_VALUE, Integer.MIN_VALUE + 1, -100, -1000};

    public static void main(String[] args) {
        Method[] all = QuorumLedger.class.getDeclaredMethods();
        Method[] face = Arrays.stream(all).filter(m -> Modifier.isPublic(m.getModifiers()))
            .sorted(Comparator.comparing(Method::getName)).toArray(Method[]::new);
        Bench.due("methods of the face", face.length, 25);
        for (int seed = 0; seed < 300; seed++) {
            Random random = new Random(seed);
            QuorumLedger x = new QuorumLedger(ODD[random.nextInt(ODD.length)] % 6, ODD[random.nextInt(6)]);
            StringBuilder calls = new StringBuilder();
            for (int i = 0; i < 400; i++) {
                Method m = face[random.nextInt(face.length)];
                Object[] values = new Object[m.getParameterCount()];
                for (int v = 0; v < values.length; v++) {
                    int odd = ODD[random.nextInt(random.nextBoolean() ? 8 : ODD.length)];
                    values[v] = random.nextInt(20) == 0 ? random.nextInt() : odd;
                }
                calls.append(m.getName()).append(Arrays.toString(values)).append('\n');
                try {
                    m.invoke(x, values);
                } catch (ReflectiveOperationException e) {
                    System.out.println("seed " + seed + ": " + e.getCause() + " behind\n" + calls);
                    Bench.due("a call throws", true, false);
                    break;
                }
            }
        }
        Bench.finish("NeverThrowsTest");
    }
}
