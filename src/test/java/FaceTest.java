import java.lang.reflect.Constructor;
import java.lang.reflect.Field;
import java.lang.reflect.Method;
import java.lang.reflect.Modifier;
import java.nio.file.Files;
import java.nio.file.Path;
import java.util.Arrays;
import java.util.Set;
import java.util.TreeSet;

/** The public face, and those rules of LANGUAGE.md that a program can see. Runs in the project's directory. */
public final class FaceTest {
    private static final String[] FACE = {
        "int term(int,int,int) IllegalArgumentException IllegalStateException", "int of(int,int)",
        "int rule(int,int) IllegalArgumentException IllegalStateException", "boolean cut()",
        "boolean edge(int,int,int,int) IllegalArgumentException IllegalStateException", "boolean mark(int,boolean)",
        "boolean reaches(int,int) IllegalArgumentException", "boolean meet(int,int) IllegalArgumentException",
        "boolean has(int) IllegalArgumentException", "boolean from(int) IllegalArgumentException",
        "boolean into(int) IllegalArgumentException", "int least(int) IllegalArgumentException",
        "int lightest(int) IllegalArgumentException",
        "int step(int,int) IndexOutOfBoundsException IllegalStateException",
        "int distance(int,int) IllegalArgumentException", "int look(int)"};
    private static final String[] FORBIDDEN = {
        "->", "::", "finally", "synchronized", "assert ", "static {", "try ", "catch ", "System.", "package ",
        "Exact(", "double", "float", "getMessage", "protected "};

    private static int wrong = 0;

    public static void main(String[] args) throws Exception {
        members();
        nestedClasses();
        text();
        System.out.println(wrong == 0 ? "the face is as due" : wrong + " faults");
        if (wrong != 0) {
            System.exit(1);
        }
    }

    private static void must(boolean holds, String what) {
        if (!holds) {
            wrong++;
            System.out.println(what);
        }
    }

    private static void members() throws Exception {
        Class<?> face = GroundReach.class;
        must(Modifier.isPublic(face.getModifiers()) && Modifier.isFinal(face.getModifiers()), "public and final");
        Set<String> found = new TreeSet<>();
        for (Method m : face.getDeclaredMethods()) {
            if (Modifier.isPrivate(m.getModifiers())) {
                continue;
            }
            must(Modifier.isPublic(m.getModifiers()) && !Modifier.isStatic(m.getModifiers()), "visible: " + m);
            String parameters = String.join(",", Arrays.stream(m.getParameterTypes()).map(Class::getName).toList());
            StringBuilder signature = new StringBuilder(m.getReturnType() + " " + m.getName() + "(" + parameters + ")");
            for (Class<?> thrown : m.getExceptionTypes()) {
                signature.append(' ').append(thrown.getSimpleName());
            }
            found.add(signature.toString());
        }
        must(found.equals(new TreeSet<>(Arrays.asList(FACE))), "methods: " + found);
        Constructor<?>[] constructors = face.getDeclaredConstructors();
        must(constructors.length == 1 && Modifier.isPublic(constructors[0].getModifiers())
            && Arrays.equals(constructors[0].getParameterTypes(), new Class<?>[] {int.class})
            && constructors[0].getExceptionTypes().length == 0, "constructor");
        for (Field f : face.getDeclaredFields()) {
            must(f.getName().equals("NONE") == !Modifier.isPrivate(f.getModifiers()), "field " + f);
        }
        Field none = face.getDeclaredField("NONE");
        must(none.toString().equals("public static final int GroundReach.NONE") && none.getInt(null) == -1, "" + none);
    }

    private static void nestedClasses() {
        Set<String> publicNames = new TreeSet<>();
        for (String method : FACE) {
            publicNames.add(method.substring(method.indexOf(' ') + 1, method.indexOf('(')));
        }
        must(GroundReach.class.getDeclaredClasses().length <= 12, "too many classes");
        for (Class<?> nested : GroundReach.class.getDeclaredClasses()) {
            must(Modifier.isStatic(nested.getModifiers()) && !Modifier.isPublic(nested.getModifiers()), "" + nested);
            must(nested.getDeclaredFields().length <= 20, "fields of " + nested);
            for (Method m : nested.getDeclaredMethods()) {
                must(!publicNames.contains(m.getName()), "bears a public name: " + m);
                must(m.getParameterCount() <= 7, "parameters of " + m);
            }
            for (Field f : nested.getDeclaredFields()) {
                must(!Modifier.isStatic(f.getModifiers()) || Modifier.isFinal(f.getModifiers()), "static " + f);
            }
        }
    }

    private static void text() throws Exception {
        for (String line : Files.readAllLines(Path.of("src/main/java/GroundReach.java"))) {
            String code = line.strip();
            if (code.startsWith("/*") || code.startsWith("*")) {
                continue;
            }
            must(!code.startsWith("import ") || code.equals("import java.util.Arrays;"), code);
            for (String word : FORBIDDEN) {
                must(!code.contains(word), "holds '" + word + "': " + code);
            }
        }
    }
}
