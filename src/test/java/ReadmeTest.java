import java.io.ByteArrayOutputStream;
import java.io.File;
import java.io.IOException;
import java.lang.reflect.Method;
import java.lang.reflect.Modifier;
import java.nio.file.Files;
import java.nio.file.Path;
import java.util.ArrayList;
import java.util.Arrays;
import java.util.List;
import java.util.Set;
import java.util.TreeSet;
import java.util.concurrent.TimeUnit;
import java.util.regex.Matcher;
import java.util.regex.Pattern;
import java.util.stream.Stream;
import javax.tools.JavaCompiler;
import javax.tools.ToolProvider;

/** What README.md says holds for the class as it stands; it is run in the project's own directory. */
public final class ReadmeTest {
    private static final Pattern CALL = Pattern.compile("^\\| `(\\w+ \\w+\\([^)]*\\))` \\| .* \\| (`?\\w+`?)(: .*)? \\|$");
    private static final Pattern TEXT = Pattern.compile("^\\| `([^`]+)` \\| (\\d+) \\|$");
    private static final Pattern TEST = Pattern.compile("`(\\w+Test)`");
    private static final Pattern INSIDE = Pattern.compile("`(\\w+)`");

    public static void main(String[] args) throws Exception {
        List<String> lines = Files.readAllLines(Path.of("README.md"));
        programPrintsWhatIsSaid(lines);
        callsAreTheClass(lines);
        refusedCallsAnswerAsSaid(lines);
        textsAreReadAsSaid(lines);
        testsAreAllNamed(lines);
        classesInsideAreAllNamed(lines);
        Due.end();
    }

    private static void programPrintsWhatIsSaid(List<String> lines) throws Exception {
        Path out = Files.createTempDirectory("readme");
        try {
            Path file = out.resolve("Example.java");
            Files.write(file, block(lines, "java", "## Use"));
            JavaCompiler javac = ToolProvider.getSystemJavaCompiler();
            ByteArrayOutputStream said = new ByteArrayOutputStream();
            int code = javac.run(null, null, said, "-Xlint:all", "-Werror", "-d", out.toString(), "src/main/java/HearingDesk.java",
                    file.toString());
            Due.is("the program of README.md compiles: " + said, code, 0);
            List<String> got = code == 0 ? printed(out) : List.of();
            List<String> want = block(lines, "text", "It prints:");
            Due.is("the program of README.md prints " + got, got.equals(want), true);
        } finally {
            deleteAll(out);
        }
    }

    private static List<String> printed(Path classes) throws Exception {
        String java = Path.of(System.getProperty("java.home"), "bin", "java").toString();
        Path file = classes.resolve("printed");
        Process run = new ProcessBuilder(java, "-cp", classes.toString(), "Example").redirectErrorStream(true)
                .redirectOutput(file.toFile()).start();
        boolean isOver = run.waitFor(1, TimeUnit.MINUTES);
        run.destroyForcibly();
        Due.is("the program of README.md ends", isOver && run.exitValue() == 0, true);
        return Files.readAllLines(file);
    }

    private static void deleteAll(Path directory) throws IOException {
        try (Stream<Path> all = Files.walk(directory)) {
            all.sorted((a, b) -> b.compareTo(a)).map(Path::toFile).forEach(File::delete);
        }
    }

    /** The lines of the first block of a language behind a line. */
    private static List<String> block(List<String> lines, String language, String behind) {
        List<String> rest = lines.subList(lines.indexOf(behind) + 1, lines.size());
        int start = rest.indexOf("```" + language) + 1;
        int length = rest.subList(start, rest.size()).indexOf("```");
        Due.is("README.md has a block of " + language + " behind " + behind, start > 0 && length > 0, true);
        return rest.subList(start, start + Math.max(0, length));
    }

    private static List<Matcher> rows(List<String> lines, Pattern form) {
        List<Matcher> rows = new ArrayList<>();
        for (String line : lines) {
            Matcher m = form.matcher(line);
            if (m.find()) {
                rows.add(m);
            }
        }
        return rows;
    }

    private static void callsAreTheClass(List<String> lines) throws IOException {
        List<String> said = new ArrayList<>();
        for (Matcher row : rows(lines, CALL)) {
            said.add(row.group(1));
        }
        List<String> face = new ArrayList<>();
        for (String line : Files.readAllLines(Path.of("../shared/DOC.md"))) {
            if (line.matches("    public \\w+ \\w+\\(.*\\);")) {
                face.add(line.substring("    public ".length(), line.length() - 1));
            }
        }
        Due.is("README.md has the document's calls in their order: " + said, said.equals(face), true);
        Due.is("calls of the class", said.size(), calls().size());
    }

    private static List<Method> calls() {
        return Arrays.stream(HearingDesk.class.getDeclaredMethods()).filter(m -> Modifier.isPublic(m.getModifiers())).toList();
    }

    /** On a full desk each call but fees() refuses the least numbers there are. */
    private static void refusedCallsAnswerAsSaid(List<String> lines) throws ReflectiveOperationException {
        for (Matcher row : rows(lines, CALL)) {
            String name = row.group(1).substring(row.group(1).indexOf(' ') + 1, row.group(1).indexOf('('));
            Method call = calls().stream().filter(m -> m.getName().equals(name)).findFirst().orElseThrow();
            Object answer = call.invoke(Desks.full(), leastOf(call.getParameterTypes()));
            String due = answer.equals(false) ? "`false`" : answer.toString().equals("-1") ? "`NONE`" : "never";
            Due.is("README.md on " + name + " refused: " + row.group(2) + " for " + due, row.group(2).equals(due), true);
        }
    }

    private static Object[] leastOf(Class<?>[] types) {
        Object[] least = new Object[types.length];
        for (int i = 0; i < types.length; i++) {
            least[i] = types[i] == boolean.class ? (Object) true : (Object) Integer.MIN_VALUE;
        }
        return least;
    }

    private static void textsAreReadAsSaid(List<String> lines) {
        List<Matcher> rows = rows(lines, TEXT);
        Due.is("README.md has texts", rows.size() >= 7, true);
        for (Matcher row : rows) {
            HearingDesk x = new HearingDesk();
            Due.is("fees of " + row.group(1), Due.fees(x, row.group(1)), Integer.parseInt(row.group(2)));
        }
    }

    private static void testsAreAllNamed(List<String> lines) throws IOException {
        Set<String> named = new TreeSet<>();
        for (String line : lines.subList(lines.indexOf("| test | what it looks at |"), lines.size())) {
            Matcher m = TEST.matcher(line);
            while (m.find()) {
                named.add(m.group(1) + ".java");
            }
        }
        Set<String> there = new TreeSet<>();
        try (Stream<Path> files = Files.list(Path.of("src/test/java"))) {
            files.map(f -> f.getFileName().toString()).filter(f -> f.endsWith("Test.java")).forEach(there::add);
        }
        Due.is("README.md names the tests that there are: " + named, named.equals(there), true);
    }

    private static void classesInsideAreAllNamed(List<String> lines) {
        Set<String> named = new TreeSet<>();
        List<String> rows = lines.subList(lines.indexOf("| class | what it holds |"), lines.size());
        for (String row : rows.subList(0, rows.indexOf(""))) {
            Matcher m = INSIDE.matcher(row.substring(0, row.indexOf('|', 1) + 1));
            while (m.find()) {
                named.add(m.group(1));
            }
        }
        Set<String> there = new TreeSet<>();
        for (Class<?> inside : HearingDesk.class.getDeclaredClasses()) {
            there.add(inside.getSimpleName());
        }
        Due.is("README.md names the classes inside: " + named, named.equals(there), true);
    }
}
