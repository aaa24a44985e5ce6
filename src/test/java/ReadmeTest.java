import java.io.IOException;
import java.lang.reflect.Method;
import java.lang.reflect.Modifier;
import java.nio.file.Files;
import java.nio.file.Path;
import java.util.ArrayList;
import java.util.Comparator;
import java.util.List;
import java.util.regex.Matcher;
import java.util.regex.Pattern;
import java.util.stream.Stream;

/** What README.md shows of the use of the class compiles, and answers as it says there. */
public final class ReadmeTest {
    private static final Due DUE = new Due("ReadmeTest");
    private static final Path README = Path.of("README.md");
    private static final Path CLASS = Path.of("src/main/java/FloatSolver.java");
    private static final Pattern PROGRAM = Pattern.compile("(?s)```java\n(.*?)```");
    private static final Pattern PROGRAM_NAME = Pattern.compile("public final class (\\w+)");
    private static final Pattern COMMANDS = Pattern.compile("(?s)```sh\n(javac .*?)```");
    /** The text up to a colon, which leads to what is said about it. */
    private static final Pattern PRINTED = Pattern.compile("System\\.out\\.println\\(.*;\\s*// ([^:]*)(:.*)?");
    private static final String SHOWN_PROGRAM = "Solving";

    private ReadmeTest() {
    }

    private static List<String> printedBy(Path room, String command) throws IOException, InterruptedException {
        Process process = new ProcessBuilder(command.trim().split("\\s+"))
            .directory(room.toFile()).redirectErrorStream(true).start();
        List<String> lines = new String(process.getInputStream().readAllBytes()).lines().toList();
        int code = process.waitFor();
        DUE.is(command, code, 0);
        if (code != 0) {
            lines.forEach(System.out::println);
        }
        return lines;
    }

    private static List<String> saidBy(String program) {
        List<String> said = new ArrayList<>();
        for (String line : program.split("\n")) {
            if (line.contains("System.out.println(")) {
                Matcher matcher = PRINTED.matcher(line.trim());
                DUE.isTrue("it is said what this prints: " + line.trim(), matcher.matches());
                said.add(matcher.matches() ? matcher.group(1).trim() : "");
            }
        }
        return said;
    }

    /** By the commands that stand in the README, in a room that has the class where the commands look for it. */
    private static void checkProgram(String program, String name, String commands)
            throws IOException, InterruptedException {
        Path room = Files.createTempDirectory("readme");
        Files.createDirectories(room.resolve(CLASS).getParent());
        Files.copy(CLASS, room.resolve(CLASS));
        Files.writeString(room.resolve(name + ".java"), program);
        List<String> printed = List.of();
        for (String command : commands.trim().split("\n")) {
            printed = printedBy(room, command.replace(SHOWN_PROGRAM, name));
        }
        List<String> said = saidBy(program);
        DUE.is(name + " prints lines", printed.size(), said.size());
        for (int i = 0; i < Math.min(printed.size(), said.size()); i++) {
            DUE.isTrue(name + " prints " + printed.get(i) + ", README.md says " + said.get(i),
                printed.get(i).equals(said.get(i)));
        }
        clear(room);
    }

    private static void clear(Path room) throws IOException {
        try (Stream<Path> all = Files.walk(room)) {
            for (Path path : all.sorted(Comparator.reverseOrder()).toList()) {
                Files.delete(path);
            }
        }
    }

    private static void programs(String readme) throws IOException, InterruptedException {
        Matcher commands = COMMANDS.matcher(readme);
        DUE.isTrue("README.md says how to compile and run a program", commands.find());
        Matcher program = PROGRAM.matcher(readme);
        List<String> names = new ArrayList<>();
        while (program.find()) {
            Matcher name = PROGRAM_NAME.matcher(program.group(1));
            DUE.isTrue("a program has a name", name.find());
            names.add(name.group(1));
            checkProgram(program.group(1), name.group(1), commands.group(1));
        }
        DUE.isTrue("the commands run one of " + names, names.contains(SHOWN_PROGRAM));
    }

    /** The cells of all rows behind this heading that begin with a number, without the marks of code. */
    private static List<String[]> rows(String readme, String heading) {
        List<String[]> rows = new ArrayList<>();
        DUE.isTrue("README.md has " + heading, readme.contains(heading + "\n"));
        String section = readme.substring(readme.indexOf(heading) + heading.length()).split("\n#")[0];
        for (String line : section.split("\n")) {
            if (line.matches("\\| \\d.*\\|")) {
                String[] cells = line.substring(1, line.length() - 1).split("\\|");
                for (int i = 0; i < cells.length; i++) {
                    cells[i] = cells[i].replace('`', ' ').trim();
                }
                rows.add(cells);
            }
        }
        return rows;
    }

    /** A NODE that no kind may need: without a number in its cell any int will do. */
    private static int constant(FloatSolver solver, String cell) {
        return cell.isEmpty() ? Integer.MIN_VALUE : Solvers.constant(solver, Float.parseFloat(cell));
    }

    private static void kindsOfNodes(String readme) {
        List<String[]> rows = rows(readme, "### Kinds of nodes");
        DUE.is("kinds of nodes", rows.size(), 16);
        for (int kind = 0; kind < rows.size(); kind++) {
            String[] cells = rows.get(kind);
            FloatSolver solver = new FloatSolver();
            int x = kind < 2 ? Integer.decode(cells[2]) : constant(solver, cells[2]);
            int y = constant(solver, cells[3]);
            DUE.is("the kind", Integer.parseInt(cells[0]), kind);
            DUE.isTrue("kind " + kind + " has a y or not", cells[3].isEmpty() != Machine.takesTwo(kind));
            long value = solver.value(solver.node(kind, x, y));
            DUE.is("kind " + kind, value, Float.floatToIntBits(Float.parseFloat(cells[4])));
        }
    }

    private static void kindsOfRules(String readme) {
        List<String[]> rows = rows(readme, "### Kinds of rules");
        DUE.is("kinds of rules", rows.size(), 6);
        for (int kind = 0; kind < rows.size(); kind++) {
            String[] cells = rows.get(kind);
            FloatSolver solver = new FloatSolver();
            int a = constant(solver, cells[2]);
            int b = constant(solver, cells[3]);
            DUE.is("the kind", Integer.parseInt(cells[0]), kind);
            DUE.isTrue("kind " + kind + " has a b or not", cells[3].isEmpty() == kind >= 4);
            DUE.is("kind " + kind, solver.holds(solver.rule(kind, a, b)), Integer.parseInt(cells[4]));
        }
    }

    private static void calls(String readme) {
        int asked = 0;
        for (Method method : FloatSolver.class.getDeclaredMethods()) {
            if (Modifier.isPublic(method.getModifiers())) {
                String call = "| `" + method.getName() + "(";
                DUE.is("README.md tells of " + call, readme.split(Pattern.quote(call), -1).length - 1, 1);
                asked++;
            }
        }
        DUE.is("calls of the face", asked, 14);
    }

    private static void places(String readme) {
        FloatSolver solver = new FloatSolver();
        DUE.isTrue("README.md tells of places", readme.contains(
            "minus infinity is at -2139095041, -0 at -1, 0 at 0,\ninfinity at 2139095040"));
        DUE.is("minus infinity", solver.bits(-2139095041), Float.floatToIntBits(Float.NEGATIVE_INFINITY));
        DUE.is("-0", solver.bits(-1), Float.floatToIntBits(-0f));
        DUE.is("0", solver.bits(0), Float.floatToIntBits(0f));
        DUE.is("infinity", solver.bits(2139095040), Float.floatToIntBits(Float.POSITIVE_INFINITY));
    }

    public static void main(String[] args) throws IOException, InterruptedException {
        String readme = Files.readString(README);
        programs(readme);
        places(readme);
        kindsOfNodes(readme);
        kindsOfRules(readme);
        calls(readme);
        DUE.end();
    }
}
