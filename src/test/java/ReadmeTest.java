import java.lang.reflect.InvocationTargetException;
import java.lang.reflect.Method;
import java.lang.reflect.Modifier;
import java.nio.charset.StandardCharsets;
import java.nio.file.DirectoryStream;
import java.nio.file.Files;
import java.nio.file.Path;
import java.util.Arrays;
import java.util.TreeSet;
import java.util.regex.Matcher;
import java.util.regex.Pattern;

/** README.md: each call of its examples answers what its comment tells; no call and no test is left out. */
public final class ReadmeTest {
    private static final String NEW_OBJECT = "StickPairs x = new StickPairs();";
    private static final Pattern CALL =
            Pattern.compile("x\\.(\\w+)\\(([^;]*)\\); +// (throws \\w+|-?[0-9.]+): .*");

    private static StickPairs x = null;

    private ReadmeTest() {
    }

    private static Object argument(String text) {
        return text.startsWith("'") ? (int) text.charAt(1) : Integer.parseInt(text);
    }

    private static String answer(String name, String arguments) throws Exception {
        Object[] values = arguments.isEmpty() ? new Object[0]
                : Arrays.stream(arguments.split(", ")).map(ReadmeTest::argument).toArray();
        Class<?>[] types = new Class<?>[values.length];
        Arrays.fill(types, int.class);
        try {
            return String.valueOf(StickPairs.class.getMethod(name, types).invoke(x, values));
        } catch (InvocationTargetException e) {
            return "throws " + e.getCause().getClass().getSimpleName();
        }
    }

    private static void example(String line) throws Exception {
        Check.about("README.md, \"" + line + "\"");
        if (line.equals(NEW_OBJECT)) {
            x = new StickPairs();
            return;
        }
        Matcher call = CALL.matcher(line);
        Check.same("a call and its answer", call.matches() ? 1 : 0, 1);
        if (call.matches()) {
            String got = answer(call.group(1), call.group(2));
            Check.same("answered " + got + "; that it is the one told", got.equals(call.group(3)) ? 1 : 0, 1);
        }
    }

    private static void examples(String page) throws Exception {
        boolean inside = false;
        for (String line : page.split("\n")) {
            if (line.startsWith("```")) {
                inside = line.equals("```java");
            } else if (inside) {
                example(line);
            }
        }
    }

    private static void leavesNothingOut(String page) throws Exception {
        Check.about("README.md");
        TreeSet<String> names = new TreeSet<>();
        for (Method method : StickPairs.class.getDeclaredMethods()) {
            if (Modifier.isPublic(method.getModifiers())) {
                names.add("x." + method.getName() + "(");
            }
        }
        try (DirectoryStream<Path> tests = Files.newDirectoryStream(Path.of("src/test/java"), "*Test.java")) {
            for (Path test : tests) {
                names.add("`" + test.getFileName().toString().replace(".java", "") + "`");
            }
        }
        for (String name : names) {
            Check.same("it names " + name, page.contains(name) ? 1 : 0, 1);
        }
    }

    public static void main(String[] args) throws Exception {
        String page = Files.readString(Path.of("README.md"), StandardCharsets.UTF_8);
        examples(page);
        leavesNothingOut(page);
        Check.end("ReadmeTest");
    }
}
