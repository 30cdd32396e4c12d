import java.io.IOException;
import java.lang.reflect.Constructor;
import java.lang.reflect.Field;
import java.lang.reflect.Method;
import java.lang.reflect.Modifier;
import java.nio.file.Files;
import java.nio.file.Path;
import java.util.ArrayList;
import java.util.Arrays;
import java.util.List;
import java.util.Set;
import java.util.TreeSet;
import java.util.regex.Matcher;
import java.util.regex.Pattern;

/** The rules of LANGUAGE.md that a program can look for. */
public final class LanguageTest {
    private static final Set<String> FACE = new TreeSet<>(List.of("feed", "lie", "pass", "seal", "stamp", "hash",
        "submit", "deliver", "calm", "copy", "flying", "bytes", "tick", "crash", "cut", "restart", "state", "block",
        "paid", "path", "account", "sector", "proof", "balance", "count"));

    public static void main(String[] args) throws IOException {
        String source = Files.readString(Path.of("src/main/java/QuorumLedger.java"));
        String code = source.replaceAll("(?s)/\\*.*?\\*/", " ").replaceAll("//[^\n]*", " ");
        words(code);
        library(code);
        face();
        classes(code);
        Bench.finish("LanguageTest");
    }

    private static void words(String code) {
        for (String word : List.of("throw", "throws", "try", "catch", "finally", "synchronized", "assert", "volatile",
            "transient", "native", "protected", "package", "var", "yield", "record", "interface", "abstract",
            "instanceof", "double", "float", "hashCode", "toString", "Exact", "Thread", "Random", "java")) {
            Matcher m = Pattern.compile("\\b" + word + "\\b").matcher(code.replace("import java.util.Arrays;", ""));
            Bench.due("the word " + word + " is there", m.find(), false);
        }
        Bench.due("a lambda", code.contains("->"), false);
        Bench.due("a method reference", code.contains("::"), false);
        Bench.due("an annotation", code.contains("@"), false);
        Bench.due("a static block", Pattern.compile("\\bstatic\\s*\\{").matcher(code).find(), false);
        Bench.due("characters", code.chars().allMatch(c -> c < 128), true);
        Matcher statics = Pattern.compile("\\bstatic\\b(?!\\s+final\\b)[^({;=]*[;=]").matcher(code);
        Bench.due("a static field that is not final", statics.find(), false);
    }

    private static void library(String code) {
        Set<String> used = new TreeSet<>();
        Matcher m = Pattern.compile("\\b(System|Arrays|Math|Integer|Long|String|StringBuilder)\\.(\\w+)").matcher(code);
        while (m.find()) {
            used.add(m.group(1) + "." + m.group(2));
        }
        used.removeAll(List.of("System.arraycopy", "Arrays.fill", "Math.min", "Math.max", "Long.compareUnsigned"));
        Bench.due("of the library " + used, used.size(), 0);
    }

    private static void face() {
        Class<QuorumLedger> type = QuorumLedger.class;
        Bench.due("public and final", type.getModifiers() & (Modifier.PUBLIC | Modifier.FINAL),
            Modifier.PUBLIC | Modifier.FINAL);
        for (Field f : type.getDeclaredFields()) {
            Bench.due(f.getName() + " is private", Modifier.isPrivate(f.getModifiers()), true);
        }
        Set<String> shown = new TreeSet<>();
        for (Method m : type.getDeclaredMethods()) {
            if (Modifier.isPrivate(m.getModifiers())) {
                Bench.due("a private " + m.getName(), FACE.contains(m.getName()), false);
            } else {
                Bench.due(m.getName() + " is public", Modifier.isPublic(m.getModifiers()), true);
                Bench.due(m.getName() + " is shown once", shown.add(m.getName()), true);
            }
        }
        Bench.due("the face", shown.equals(FACE), true);
        Constructor<?>[] made = type.getDeclaredConstructors();
        Bench.due("constructors", made.length, 1);
        Bench.due("its parameters", Arrays.equals(made[0].getParameterTypes(), new Class<?>[] {int.class, int.class}),
            true);
    }

    private static void classes(String code) {
        List<Class<?>> all = new ArrayList<>(List.of(QuorumLedger.class.getDeclaredClasses()));
        Bench.due("at most twelve classes", all.size() + 1 <= 12, true);
        all.add(QuorumLedger.class);
        for (Class<?> type : all) {
            boolean nested = type != QuorumLedger.class;
            Bench.due(type + " is static", !nested || Modifier.isStatic(type.getModifiers()), true);
            Bench.due(type + " has none inside", !nested || type.getDeclaredClasses().length == 0, true);
            int fields = 0;
            for (Field f : type.getDeclaredFields()) {
                boolean constant = Modifier.isStatic(f.getModifiers());
                fields += constant ? 0 : 1;
                Bench.due(f + " is a constant", !constant || Modifier.isFinal(f.getModifiers()), true);
            }
            Bench.due(type + " has few fields", fields <= 20, true);
            for (Method m : type.getDeclaredMethods()) {
                Bench.due(m + " has few parameters", m.getParameterCount() <= 7, true);
                Bench.due(m + " bears the face's name", nested && FACE.contains(m.getName()), false);
            }
        }
        longMethods(code);
    }

    private static void longMethods(String code) {
        String[] lines = code.split("\n", -1);
        int start = -1;
        for (int i = 0; i < lines.length; i++) {
            if (lines[i].matches("( {4}| {8})\\S.*\\) \\{")) {
                start = i;
            } else if (start >= 0 && lines[i].matches("( {4}| {8})\\}")) {
                Bench.due("line " + (start + 1) + ": a long method", i - start + 1 > 60, false);
                start = -1;
            }
        }
    }
}
