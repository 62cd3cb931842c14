import java.lang.reflect.Field;
import java.lang.reflect.Member;
import java.lang.reflect.Method;
import java.lang.reflect.Modifier;
import java.nio.file.Files;
import java.nio.file.Path;
import java.util.ArrayList;
import java.util.Arrays;
import java.util.List;
import java.util.Set;
import java.util.TreeSet;
import java.util.regex.Pattern;

/** The public face of the document, and the rules of LANGUAGE.md that can be seen from outside. */
public final class FaceTest {
    private static final String[] FACE = {
        "int stuff(int,int,int,int,int)", "int press(int,int,int)", "int line(int,int,int,int,int)", "int drop()",
        "int turns()", "int set(int,int)", "int run(int)", "int lose(int)", "int at(int,int)", "int about(int)",
        "int steady(int,int,int)", "long miss(int,int,int)", "int beside(int,int,int,int,int)", "long swing(int,int)",
        "long area(int,int)", "int keep(int)", "int curve(int,int)", "int spread(int,int,int,int)",
        "int shift(int,int,int)", "int check(int)", "int count(int)", "long trace()",
    };
    private static final String[] FORBIDDEN = {
        "\\bthrow\\b", "\\bthrows\\b", "\\btry\\b", "\\bcatch\\b", "\\bsynchronized\\b", "\\bassert\\b", "\\bimport\\b",
        "\\bpackage\\b", "->", "::", "@", "\\bprotected\\b", "\\bvolatile\\b", "\\bThread\\b", "\\bObject\\b",
        "\\bSystem\\.(?!arraycopy)", "Exact\\b", "\\bwhile\\s*\\(\\s*true", "for\\s*\\(\\s*;\\s*;", "\\bstatic\\s*\\{",
    };
    private static final Due due = new Due();

    public static void main(String[] args) throws Exception {
        face();
        constants();
        classes();
        source(Files.readString(Path.of("src/main/java/SoftBench.java")));
        due.end();
    }

    private static void face() {
        due.holds("the class is final", Modifier.isFinal(SoftBench.class.getModifiers()));
        due.is("constructors", SoftBench.class.getDeclaredConstructors().length, 1);
        due.is("the public constructor", SoftBench.class.getConstructors().length, 1);
        Set<String> seen = new TreeSet<>();
        for (Method m : SoftBench.class.getDeclaredMethods()) {
            if (!Modifier.isPrivate(m.getModifiers())) {
                List<String> types = new ArrayList<>();
                for (Class<?> t : m.getParameterTypes()) {
                    types.add(t.getName());
                }
                seen.add(m.getReturnType().getName() + " " + m.getName() + "(" + String.join(",", types) + ")");
            }
        }
        Set<String> told = new TreeSet<>(Arrays.asList(FACE));
        due.holds("the methods are those of the document: " + seen, seen.equals(told));
        int open = 0;
        for (Field f : SoftBench.class.getDeclaredFields()) {
            open += Modifier.isPrivate(f.getModifiers()) ? 0 : 1;
        }
        due.is("fields that are not private", open, 5);
    }

    private static void constants() {
        due.is("BAD", SoftBench.BAD, -1);
        due.is("STATE", SoftBench.STATE, -2);
        due.is("FULL", SoftBench.FULL, -3);
        due.is("NONE", SoftBench.NONE, -9);
        due.is("NO", SoftBench.NO, -2000000000);
    }

    private static void classes() {
        Set<String> publicNames = new TreeSet<>();
        for (Method m : SoftBench.class.getMethods()) {
            publicNames.add(m.getName());
        }
        Class<?>[] inside = SoftBench.class.getDeclaredClasses();
        due.holds("at most twelve classes", inside.length + 1 <= 12);
        List<Class<?>> all = new ArrayList<>(Arrays.asList(inside));
        for (Class<?> c : inside) {
            due.holds(c + " is static", Modifier.isStatic(c.getModifiers()));
            due.holds(c + " is not public", !Modifier.isPublic(c.getModifiers()));
        }
        all.add(SoftBench.class);
        for (Class<?> c : all) {
            int fields = 0;
            for (Field f : c.getDeclaredFields()) {
                boolean isStatic = Modifier.isStatic(f.getModifiers());
                fields += isStatic ? 0 : 1;
                due.holds(f + " is final if static", !isStatic || Modifier.isFinal(f.getModifiers()));
            }
            due.holds(c + " has at most twenty fields", fields <= 20);
            for (Method m : c.getDeclaredMethods()) {
                due.holds(m + " has its own name", isOfTheFace(m) || !publicNames.contains(m.getName()));
                due.holds(m + " takes at most seven", m.getParameterCount() <= 7);
            }
        }
    }

    private static boolean isOfTheFace(Member m) {
        return m.getDeclaringClass() == SoftBench.class && Modifier.isPublic(m.getModifiers());
    }

    private static void source(String text) {
        due.holds("characters 0 to 255 alone", text.chars().allMatch(c -> c <= 255));
        String code = text.replaceAll("(?s)/\\*.*?\\*/", " ").replaceAll("//[^\n]*", " ");
        for (String word : FORBIDDEN) {
            due.holds("the code is without " + word, !Pattern.compile(word).matcher(code).find());
        }
        int length = 0;
        for (String row : text.split("\n")) {
            length = row.isBlank() ? 0 : length + 1;
            due.holds("no part without a gap is beyond sixty lines: " + row, length <= 60);
        }
    }
}
