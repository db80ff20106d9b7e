import java.io.ByteArrayOutputStream;
import java.io.PrintStream;
import java.net.URL;
import java.net.URLClassLoader;
import java.nio.file.Files;
import java.nio.file.Path;
import java.nio.file.Paths;
import java.util.Comparator;
import java.util.List;
import java.util.stream.Collectors;
import java.util.stream.Stream;
import javax.tools.ToolProvider;

/** README.md: its program compiles and prints what README.md says; all that it names is there. */
public final class ReadmeTest {
    public static void main(String[] args) throws Exception {
        String readme = Files.readString(Paths.get("README.md"));
        String program = block(readme, "java");
        example(program, block(readme, "text"));
        partsOf(program);
        namesOf(readme);
        commandsOf(readme);
        Check.end("ReadmeTest");
    }

    /** The first block of this kind. */
    private static String block(String readme, String kind) {
        int from = readme.indexOf("```" + kind + "\n");
        int to = from < 0 ? -1 : readme.indexOf("\n```\n", from);
        Check.due("README.md has a block of " + kind, to > from, true);
        return to > from ? readme.substring(from + kind.length() + 4, to) + "\n" : "";
    }

    private static void example(String program, String due) throws Exception {
        Path work = Files.createTempDirectory("readme");
        try {
            Path source = work.resolve("Example.java");
            Files.writeString(source, program);
            int exit = ToolProvider.getSystemJavaCompiler().run(null, System.out, System.out, "-Xlint:all", "-d",
                work.toString(), "src/main/java/BanksDealt.java", source.toString());
            Check.due("README.md's program compiles", exit, 0);
            if (exit == 0) {
                Check.dueText("README.md's program", printedBy(work), due);
            }
        } finally {
            remove(work);
        }
    }

    private static String printedBy(Path classes) throws Exception {
        ByteArrayOutputStream printed = new ByteArrayOutputStream();
        PrintStream before = System.out;
        // Without this test's own classes: the program stands for itself.
        try (URLClassLoader loader = new URLClassLoader(new URL[] {classes.toUri().toURL()},
            ClassLoader.getPlatformClassLoader())) {
            System.setOut(new PrintStream(printed, true));
            loader.loadClass("Example").getMethod("main", String[].class).invoke(null, (Object) new String[0]);
        } finally {
            System.setOut(before);
        }
        return printed.toString();
    }

    private static void remove(Path work) throws Exception {
        List<Path> all;
        try (Stream<Path> paths = Files.walk(work)) {
            all = paths.sorted(Comparator.reverseOrder()).collect(Collectors.toList());
        }
        for (Path path : all) {
            Files.delete(path);
        }
    }

    /** A text fed, calls that take or judge it, calls that act and ask, a call that throws. */
    private static void partsOf(String program) {
        for (String call : List.of("new BanksDealt()", "b.feed(", "b.end(", "b.plain()", "b.fault()", "b.book(0)",
            "b.book(1)", "b.sentence()", "b.field(1, 3)", "b.spring(", "b.undo()", "catch (NoSuchElementException")) {
            Check.due("README.md's program shows " + call, program.contains(call), true);
        }
    }

    /** Each method of the face stands in README.md. */
    private static void namesOf(String readme) {
        for (java.lang.reflect.Method m : BanksDealt.class.getMethods()) {
            if (m.getDeclaringClass() == BanksDealt.class) {
                boolean named = readme.contains("`" + m.getName() + "`") || readme.contains("`" + m.getName() + "(");
                Check.due("README.md names " + m.getName(), named, true);
            }
        }
    }

    /** The commands told, indented by four, name files that are there; what ../shared holds is not ours. */
    private static void commandsOf(String readme) {
        Check.due("README.md tells .ci/run", readme.contains("\n    .ci/run\n"), true);
        Check.due(".ci/run can be run", Files.isExecutable(Paths.get(".ci/run")), true);
        for (String line : readme.split("\n")) {
            if (line.startsWith("    javac")) {
                for (String word : line.trim().split(" ")) {
                    boolean ours = word.endsWith(".java") && (word.startsWith("src/") || word.startsWith("tests/"));
                    Check.due(word + " is there", !ours || word.contains("*") || Files.exists(Paths.get(word)), true);
                }
            }
        }
    }
}
