import java.lang.reflect.Method;
import java.lang.reflect.Modifier;
import java.nio.charset.StandardCharsets;
import java.nio.file.Files;
import java.nio.file.Path;

/** README.md tells every call and every test, and its examples do what it says they do. */
public final class ReadmeTest {
    private static int wrong;

    private static void due(String what, long got, long want) {
        if (got != want) {
            wrong++;
            System.out.println(what + " answered " + got + ", due is " + want);
        }
    }

    private static void tells(String readme, String what) {
        if (!readme.contains(what)) {
            wrong++;
            System.out.println("README.md does not tell " + what);
        }
    }

    private static void callsAndTests(String readme) throws Exception {
        tells(readme, "`new QuorumLedger(f, liars)`");
        for (Method m : QuorumLedger.class.getDeclaredMethods()) {
            if (Modifier.isPublic(m.getModifiers())) {
                tells(readme, "`" + m.getName() + "(");
            }
        }
        tells(readme, ".ci/run");
        try (var files = Files.newDirectoryStream(Path.of("src/test/java"), "*Test.java")) {
            for (Path file : files) {
                String name = file.getFileName().toString();
                tells(readme, "`" + name.substring(0, name.length() - 5) + "`");
            }
        }
    }

    private static void firstExample() {
        QuorumLedger x = new QuorumLedger(1, 0);
        due("submit", x.submit(0, 0, 1, 5, 0, 1) ? 1 : 0, 1);
        x.calm(5, 0);
        due("state(0, 0)", x.state(0, 0), 41);
        due("balance(0, 1)", x.balance(0, 1), 1005);
    }

    private static void liarsVote() {
        QuorumLedger x = new QuorumLedger(1, 1);
        due("feed", x.feed(0x02030001, 0x00010000, 0, 0, 0) && x.feed(0, 0, 0, 0, 0) ? 1 : 0, 1);
        due("stamp", x.stamp(6, 0, 0) ? 1 : 0, 1);
        due("lie", x.lie(3, 0, 38) ? 1 : 0, 1);
        int last = x.count(0) - 1;
        due("deliver", x.deliver(last), 2);
        due("what came to be held is sent on: how many fly", x.count(0), last + 2);
    }

    public static void main(String[] args) throws Exception {
        callsAndTests(Files.readString(Path.of("README.md"), StandardCharsets.UTF_8));
        firstExample();
        liarsVote();
        System.out.println(wrong == 0 ? "ReadmeTest: all answers are as due" : "ReadmeTest: " + wrong + " are not");
        if (wrong != 0) {
            System.exit(1);
        }
    }
}
