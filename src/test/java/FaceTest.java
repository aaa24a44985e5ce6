import java.io.IOException;
import java.lang.reflect.Constructor;
import java.lang.reflect.Field;
import java.lang.reflect.Method;
import java.lang.reflect.Modifier;
import java.nio.file.Files;
import java.nio.file.Path;
import java.util.ArrayList;
import java.util.Arrays;
import java.util.List;
import java.util.Set;
import java.util.TreeSet;
import java.util.regex.Matcher;
import java.util.regex.Pattern;

/** The public face is the document's and no more; the source keeps clear of what LANGUAGE.md leaves out. */
public final class FaceTest {
    private static final Due DUE = new Due("FaceTest");
    private static final Path SOURCE = Path.of("src/main/java/FloatSolver.java");
    private static final Set<String> METHODS = new TreeSet<>(Arrays.asList(
        "public int FloatSolver.node(int,int,int)",
        "public int FloatSolver.rule(int,int,int)",
        "public int FloatSolver.noRules()",
        "public int FloatSolver.range(int,int,int)",
        "public int FloatSolver.set(int,int)",
        "public long FloatSolver.place(int)",
        "public long FloatSolver.bits(int)",
        "public long FloatSolver.value(int)",
        "public int FloatSolver.holds(int)",
        "public long FloatSolver.span(int,int)",
        "public int FloatSolver.judge(int)",
        "public int FloatSolver.solve(int)",
        "public long FloatSolver.solved(int)",
        "public long FloatSolver.width(int,int) throws java.lang.ArithmeticException"));
    /** Ahead of the calls place, bits, value, holds the interface says: ---- floats. And so on. */
    private static final List<String> ORDER = List.of(
        "node", "rule", "noRules", "range", "set",
        "---- floats", "place", "bits", "value", "holds",
        "---- spans", "span", "judge",
        "---- solving", "solve", "solved", "width");
    /** The class needs none of these; each of them stands outside the rules or close to their edge. */
    private static final String[] LEFT_OUT = {
        "\\bfloat\\b", "\\bdouble\\b", "\\bFloat\\.", "\\bDouble\\.", "\\bcatch\\b", "\\bfinally\\b", "\\bsynchronized\\b",
        "\\bassert\\b", "->", "::", "Exact\\(", "\\bpackage\\b", "\\bprotected\\b", "\\bstatic \\{", "\\bSystem\\b",
        "\\bwhile \\(true\\)", "\\bfor \\(;;", "\\.getMessage\\b", "\\bhashCode\\b", "\\btoString\\b", "\\bequals\\b"};

    private FaceTest() {
    }

    private static void checkClass() {
        int modifiers = FloatSolver.class.getModifiers();
        DUE.isTrue("the class is public and final", Modifier.isPublic(modifiers) && Modifier.isFinal(modifiers));
        Constructor<?>[] constructors = FloatSolver.class.getDeclaredConstructors();
        DUE.is("constructors", constructors.length, 1);
        DUE.isTrue("the constructor", constructors[0].toGenericString().equals("public FloatSolver()"));
        for (Class<?> inside : FloatSolver.class.getDeclaredClasses()) {
            int kind = inside.getModifiers();
            DUE.isTrue(inside + " is static and not public", Modifier.isStatic(kind)
                && !Modifier.isPublic(kind) && !Modifier.isProtected(kind));
            checkStaticFields(inside);
        }
    }

    private static void checkStaticFields(Class<?> inside) {
        for (Field field : inside.getDeclaredFields()) {
            boolean isStatic = Modifier.isStatic(field.getModifiers());
            DUE.isTrue(field + " is final if it is static", !isStatic || Modifier.isFinal(field.getModifiers()));
        }
    }

    private static void checkFields() {
        checkStaticFields(FloatSolver.class);
        for (Field field : FloatSolver.class.getDeclaredFields()) {
            boolean isFace = field.toGenericString().equals("public static final long FloatSolver.NOTHING");
            DUE.isTrue(field + " is the face's or private", isFace || Modifier.isPrivate(field.getModifiers()));
        }
    }

    private static void checkMethods() {
        Set<String> found = new TreeSet<>();
        Set<String> names = new TreeSet<>();
        for (Method method : FloatSolver.class.getDeclaredMethods()) {
            if (!Modifier.isPrivate(method.getModifiers())) {
                found.add(method.toGenericString());
                names.add(method.getName());
            }
        }
        DUE.isTrue("the methods are " + found, found.equals(METHODS));
        for (Method method : FloatSolver.class.getDeclaredMethods()) {
            DUE.isTrue(method + " bears a name of its own",
                !Modifier.isPrivate(method.getModifiers()) || !names.contains(method.getName()));
        }
        for (Class<?> inside : FloatSolver.class.getDeclaredClasses()) {
            for (Method method : inside.getDeclaredMethods()) {
                DUE.isTrue(method + " bears a name of its own", !names.contains(method.getName()));
                DUE.isTrue(method + " takes seven at most", method.getParameterCount() <= 7);
            }
        }
    }

    /** What a line of the source is for the reader of the face: a heading, a call's name, or nothing. */
    private static String lineOfFace(String line) {
        Matcher heading = Pattern.compile("    // (---- \\w+)").matcher(line);
        Matcher call = Pattern.compile("    public \\w+ (\\w+)\\(.*").matcher(line);
        return heading.matches() ? heading.group(1) : call.matches() ? call.group(1) : "";
    }

    private static void checkHeadings() throws IOException {
        List<String> found = new ArrayList<>();
        for (String line : Files.readAllLines(SOURCE)) {
            if (!lineOfFace(line).isEmpty()) {
                found.add(lineOfFace(line));
            }
        }
        DUE.isTrue("the calls stand as in the document, under its headings: " + found, found.equals(ORDER));
    }

    private static void checkWords() throws IOException {
        String code = Files.readString(SOURCE).replaceAll("(?s)/\\*.*?\\*/", "").replaceAll("//[^\n]*", "");
        for (String word : LEFT_OUT) {
            DUE.isTrue("the source is without " + word, !Pattern.compile(word).matcher(code).find());
        }
        for (String line : code.split("\n")) {
            DUE.isTrue("only the arrays of the library: " + line,
                !line.startsWith("import ") || line.equals("import java.util.Arrays;"));
        }
        DUE.is("places that throw", code.split("\\bthrow\\b", -1).length - 1, 1);
    }

    public static void main(String[] args) throws IOException {
        checkClass();
        checkFields();
        checkMethods();
        checkHeadings();
        checkWords();
        DUE.end();
    }
}
