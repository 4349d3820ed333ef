import java.io.IOException;
import java.lang.reflect.Constructor;
import java.lang.reflect.Field;
import java.lang.reflect.Method;
import java.lang.reflect.Modifier;
import java.nio.file.Files;
import java.nio.file.Path;
import java.util.Arrays;
import java.util.Set;
import java.util.TreeSet;
import java.util.regex.Matcher;
import java.util.regex.Pattern;

/** The public face of the document, and the rules for the source that a search of its text can see. */
public final class FaceTest {
    private static final String[] FACE = {
        "points(int)", "figure()", "place(int, int, int, int)", "placed(int, int, int)", "good(int)", "holds(int, int, int, int, int, int)",
        "feed(long, int)", "wipe()", "language(int)", "word(int, int)", "row()", "goal()", "back()", "fact(int, int)", "because(int, int)",
        "alike(int, int, int, int, int, int)", "grade()", "verdict(int)", "way(int)", "gap(int)", "counter(int)", "circle(int)", "order(int)",
        "marks(int)", "hint(int)", "level(int, int, int, int, int)", "reached(int)", "told(int)",
    };
    private static final String[] FORBIDDEN = {
        "\\bthrow\\b", "\\btry\\b", "\\bcatch\\b", "\\bsynchronized\\b", "\\bassert\\b", "->", "::", "\\bimport\\b", "\\bpackage\\b", "Exact\\b",
        "\\bprotected\\b", "\\bSystem\\.(?!arraycopy)", "\\bMath\\.random", "\"\\s*\\+", "\\+\\s*\"", "\\bvar\\b", "\\bstatic \\{", "\\bdouble\\b",
    };

    private static final Typist TYPIST = new Typist("FaceTest");

    public static void main(String[] args) throws IOException {
        theFace();
        theConstants();
        theClassesInside();
        theSource();
        TYPIST.end();
    }

    private static void theFace() {
        Set<String> due = new TreeSet<>(Arrays.asList(FACE));
        Set<String> found = new TreeSet<>();
        Set<String> names = new TreeSet<>();
        for (Method method : RowGrader.class.getDeclaredMethods()) {
            String types = Arrays.toString(method.getParameterTypes()).replace("[", "(").replace("]", ")");
            TYPIST.due("int " + method.getName(), method.getReturnType() == int.class ? 1 : 0, 1);
            TYPIST.due("public, or private: " + method.getName(), method.getModifiers() & ~Modifier.STATIC & ~Modifier.FINAL,
                due.contains(method.getName() + types) ? Modifier.PUBLIC : Modifier.PRIVATE);
            if (Modifier.isPublic(method.getModifiers())) found.add(method.getName() + types);
            names.add(method.getName());
        }
        TYPIST.due("the methods are " + found, found.equals(due) ? 1 : 0, 1);
        for (Class<?> inside : RowGrader.class.getDeclaredClasses()) {
            for (Method method : inside.getDeclaredMethods()) {
                TYPIST.due("a public name inside: " + method.getName(), names.contains(method.getName()) ? 1 : 0, 0);
            }
        }
        Constructor<?>[] made = RowGrader.class.getDeclaredConstructors();
        TYPIST.due("constructors", made.length, 1);
        TYPIST.due("public constructor", made[0].getModifiers(), Modifier.PUBLIC);
        TYPIST.due("constructor without parameters", made[0].getParameterCount(), 0);
        TYPIST.due("the class", RowGrader.class.getModifiers(), Modifier.PUBLIC | Modifier.FINAL);
    }

    private static void theConstants() {
        TYPIST.due("UNKNOWN", RowGrader.UNKNOWN, -1);
        TYPIST.due("OUTSIDE", RowGrader.OUTSIDE, -2);
        TYPIST.due("STATE", RowGrader.STATE, -3);
        TYPIST.due("FULL", RowGrader.FULL, -4);
        TYPIST.due("NONE", RowGrader.NONE, -5);
        int open = 0;
        for (Field field : RowGrader.class.getDeclaredFields()) {
            if (!Modifier.isPrivate(field.getModifiers())) open++;
        }
        TYPIST.due("fields that are not private", open, 5);
    }

    private static void theClassesInside() {
        Class<?>[] inside = RowGrader.class.getDeclaredClasses();
        TYPIST.due("at most twelve classes", inside.length <= 11 ? 1 : 0, 1);
        for (Class<?> one : inside) {
            TYPIST.due("static: " + one, Modifier.isStatic(one.getModifiers()) ? 1 : 0, 1);
            int fields = 0;
            for (Field field : one.getDeclaredFields()) {
                boolean constant = Modifier.isStatic(field.getModifiers());
                if (!constant) fields++;
                else TYPIST.due("final: " + field, Modifier.isFinal(field.getModifiers()) ? 1 : 0, 1);
            }
            TYPIST.due("some twenty fields: " + one, fields <= 20 ? 1 : 0, 1);
            for (Method method : one.getDeclaredMethods()) {
                TYPIST.due("seven parameters: " + method, method.getParameterCount() <= 7 ? 1 : 0, 1);
            }
        }
    }

    private static void theSource() throws IOException {
        String source = Files.readString(Path.of("src/main/java/RowGrader.java"));
        String code = source.replaceAll("(?s)/\\*.*?\\*/", "").replaceAll("//.*", "");
        for (String pattern : FORBIDDEN) {
            Matcher found = Pattern.compile(pattern).matcher(code);
            boolean stands = found.find();
            TYPIST.due("the source has " + pattern + (stands ? " at " + code.substring(found.start()).lines().findFirst().orElse("") : ""), stands ? 1 : 0, 0);
        }
        int length = 0;
        for (String line : source.split("\n")) {
            length = line.matches("(    |        )\\}") ? 0 : length + 1;
            if (line.matches("(    |        )\\S.*\\{")) length = 0;
            TYPIST.due("a method of some sixty lines, at " + line, length <= 60 ? 1 : 0, 1);
        }
    }
}
