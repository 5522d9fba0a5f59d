import java.lang.reflect.Constructor;
import java.lang.reflect.Field;
import java.lang.reflect.Member;
import java.lang.reflect.Method;
import java.lang.reflect.Modifier;
import java.nio.charset.StandardCharsets;
import java.nio.file.Files;
import java.nio.file.Path;
import java.util.ArrayList;
import java.util.Arrays;
import java.util.List;
import java.util.TreeSet;

/** The face of the document, and those rules of LANGUAGE.md that can be read from names and words. */
public final class FaceTest {
    private static final String[] FACE = {
        "int plug(int,int,int,int) IndexOutOfBoundsException IllegalArgumentException IllegalStateException",
        "int pull(int) IndexOutOfBoundsException IllegalStateException",
        "int fail(int) IndexOutOfBoundsException IllegalStateException",
        "int start() IllegalStateException",
        "int stop() IllegalStateException",
        "int write(int,int) IndexOutOfBoundsException IllegalArgumentException IllegalStateException",
        "int read(int) IndexOutOfBoundsException IllegalStateException",
        "int rest(int) IllegalArgumentException",
        "int set(int,int) IndexOutOfBoundsException IllegalArgumentException",
        "int append(int) IllegalArgumentException IllegalStateException",
        "int clearBuffer()",
        "int firstError()",
        "int run() IllegalArgumentException",
        "int keep()",
        "int goBack() IllegalStateException",
        "int undo() IllegalStateException",
        "int slot(int,int) IndexOutOfBoundsException IllegalArgumentException",
        "int where(int,int) IndexOutOfBoundsException IllegalArgumentException",
        "int lies(int,int) IndexOutOfBoundsException",
        "int count(int) IllegalArgumentException",
        "int setting(int) IndexOutOfBoundsException",
        "int why()",
        "int sweep(int) IllegalArgumentException",
        "int ifStarted(int,int) IllegalArgumentException",
        "int bestChange()",
        "double wideShare()",
        "float meanTicks()",
        "long digest()",
    };

    private static final String[] FORBIDDEN = {
        "->", "::", "catch", "try ", "finally", "synchronized", "assert ", "static {", "package ", "System.out",
        "Exact(", "Double", "Float", "hashCode", "toString", "equals(", "instanceof", "Thread", "Random", "record ",
        "\" +", "+ \"", "while (true)", "for (;;)",
    };

    private static void require(boolean holds, String what) {
        Check.same(what, holds ? 1 : 0, 1);
    }

    private static String signature(Method method) {
        StringBuilder text = new StringBuilder();
        text.append(method.getReturnType().getSimpleName()).append(' ').append(method.getName()).append('(');
        List<String> parameters = new ArrayList<>();
        for (Class<?> type : method.getParameterTypes()) {
            parameters.add(type.getSimpleName());
        }
        text.append(String.join(",", parameters)).append(')');
        for (Class<?> type : method.getExceptionTypes()) {
            text.append(' ').append(type.getSimpleName());
        }
        return text.toString();
    }

    private static boolean isOwn(Member member) {
        return !member.isSynthetic();
    }

    private static void face() {
        require(Modifier.isPublic(StickPairs.class.getModifiers()), "the class is public");
        require(Modifier.isFinal(StickPairs.class.getModifiers()), "the class is final");
        TreeSet<String> due = new TreeSet<>(Arrays.asList(FACE));
        TreeSet<String> got = new TreeSet<>();
        for (Method method : StickPairs.class.getDeclaredMethods()) {
            if (isOwn(method) && !Modifier.isPrivate(method.getModifiers())) {
                require(Modifier.isPublic(method.getModifiers()), method.getName() + " is public");
                got.add(signature(method));
            }
        }
        require(got.equals(due), "the methods are those of the face: " + got);
        Constructor<?>[] constructors = StickPairs.class.getDeclaredConstructors();
        Check.same("constructors", constructors.length, 1);
        Check.same("its parameters", constructors[0].getParameterCount(), 0);
        require(Modifier.isPublic(constructors[0].getModifiers()), "the constructor is public");
    }

    private static void fields() {
        int shown = 0;
        for (Field field : StickPairs.class.getDeclaredFields()) {
            boolean isStatic = Modifier.isStatic(field.getModifiers());
            require(!isStatic || Modifier.isFinal(field.getModifiers()), field.getName() + " is no static variable");
            if (!Modifier.isPrivate(field.getModifiers())) {
                shown++;
                require(field.getName().equals("NONE") && field.getType() == int.class
                        && Modifier.isPublic(field.getModifiers()) && isStatic, field.getName() + " is of the face");
            }
        }
        Check.same("constants of the face", shown, 1);
        Check.same("NONE", StickPairs.NONE, -1);
    }

    private static void insides() {
        TreeSet<String> publicNames = new TreeSet<>();
        for (String line : FACE) {
            publicNames.add(line.substring(line.indexOf(' ') + 1, line.indexOf('(')));
        }
        List<Class<?>> classes = new ArrayList<>(Arrays.asList(StickPairs.class.getDeclaredClasses()));
        for (Class<?> inside : classes) {
            require(Modifier.isStatic(inside.getModifiers()), inside.getName() + " is static");
            require(!Modifier.isPublic(inside.getModifiers()) && !Modifier.isProtected(inside.getModifiers()),
                    inside.getName() + " is hidden");
        }
        classes.add(StickPairs.class);
        require(classes.size() <= 12, "at most twelve classes");
        for (Class<?> each : classes) {
            int variables = 0;
            for (Field field : each.getDeclaredFields()) {
                variables += Modifier.isStatic(field.getModifiers()) ? 0 : 1;
            }
            require(variables <= 20, each.getName() + " has at most twenty fields");
            for (Method method : each.getDeclaredMethods()) {
                require(method.getParameterCount() <= 7, method.getName() + " takes at most seven parameters");
                require(Modifier.isPublic(method.getModifiers()) || !publicNames.contains(method.getName()),
                        method.getName() + " bears no public name");
            }
        }
    }

    private static void words() throws Exception {
        String source = Files.readString(Path.of("src/main/java/StickPairs.java"), StandardCharsets.UTF_8);
        StringBuilder code = new StringBuilder();
        for (String line : source.split("\n")) {
            String bare = line.strip();
            if (!bare.startsWith("//") && !bare.startsWith("*") && !bare.startsWith("/**")) {
                code.append(line).append('\n');
            }
            require(!bare.startsWith("import ") || bare.equals("import java.util.Arrays;"), "imported: " + bare);
            require(line.chars().allMatch(c -> c >= 32 && c < 127), "plain signs: " + line);
        }
        for (String word : FORBIDDEN) {
            require(code.indexOf(word) < 0, "the code has no " + word);
        }
    }

    public static void main(String[] args) throws Exception {
        face();
        fields();
        insides();
        words();
        Check.end("FaceTest");
    }
}
