import java.io.IOException;
import java.io.StringWriter;
import java.lang.reflect.Method;
import java.lang.reflect.Modifier;
import java.net.URL;
import java.net.URLClassLoader;
import java.nio.file.Files;
import java.nio.file.Path;
import java.util.ArrayList;
import java.util.List;
import java.util.regex.Matcher;
import java.util.regex.Pattern;
import java.util.stream.Stream;
import javax.tools.JavaCompiler;
import javax.tools.JavaFileObject;
import javax.tools.StandardJavaFileManager;
import javax.tools.ToolProvider;

/** README.md shows how the class is used: the Java on it is compiled and run, and its answers are those it names. */
public final class ReadmeTest {
    private static final Path PAGE = Path.of("README.md");
    private static final Path OUT = Path.of("build", "readme");
    /** A call alone in its line, and the number that it answers. */
    private static final Pattern ANSWERED = Pattern.compile("^(.+\\));\\s*// (-?\\d+)\\b.*$");

    public static void main(String[] args) throws IOException, ReflectiveOperationException {
        Check.promise("README.md");
        List<String> page = Files.readAllLines(PAGE);
        List<List<String>> blocks = blocks(page);
        Check.due("there is Java on it", blocks.size() > 1 ? 1 : 0, 1);
        runAll(blocks);
        allCallsAreShown(blocks);
        allTestsAreNamed(String.join("\n", page));
        Check.end();
    }

    /** What the page's Java calls; public, as that is loaded by another loader. */
    public static void due(String call, long got, long want) {
        Check.due(call, got, want);
    }

    private static List<List<String>> blocks(List<String> page) {
        List<List<String>> all = new ArrayList<>();
        List<String> open = null;
        for (String line : page) {
            if (line.equals("```java")) {
                open = new ArrayList<>();
                all.add(open);
            } else if (line.startsWith("```")) {
                open = null;
            } else if (open != null) {
                open.add(line);
            }
        }
        return all;
    }

    private static boolean isFunction(List<String> block) {
        return block.stream().anyMatch(line -> line.startsWith("static "));
    }

    private static void runAll(List<List<String>> blocks) throws IOException, ReflectiveOperationException {
        StringBuilder java = new StringBuilder("public final class ReadmeShows {\n");
        int runs = 0;
        for (List<String> block : blocks) {
            if (isFunction(block)) {
                block.forEach(line -> java.append(line).append('\n'));
            } else {
                java.append("public static void run").append(runs++).append("() {\n");
                block.forEach(line -> java.append(asked(line)).append('\n'));
                java.append("}\n");
            }
        }
        compile(java.append("}\n").toString());
        URL[] where = {OUT.toUri().toURL()};
        try (URLClassLoader loader = new URLClassLoader(where, ReadmeTest.class.getClassLoader())) {
            Class<?> shown = loader.loadClass("ReadmeShows");
            for (int k = 0; k < runs; k++) {
                shown.getMethod("run" + k).invoke(null);
            }
        }
    }

    /** A line of the page as a comparison; each line but the one that makes an object names an answer. */
    private static String asked(String line) {
        Matcher m = ANSWERED.matcher(line);
        if (m.matches()) {
            String told = m.group(1).replace("\\", "\\\\").replace("\"", "\\\"");
            return "ReadmeTest.due(\"" + told + "\", " + m.group(1) + ", " + m.group(2) + "L);";
        }
        Check.due(line + " (names an answer)", line.equals("CoasterDay day = new CoasterDay();") ? 1 : 0, 1);
        return line;
    }

    private static void compile(String java) throws IOException {
        Files.createDirectories(OUT);
        Path file = OUT.resolve("ReadmeShows.java");
        Files.writeString(file, java);
        JavaCompiler compiler = ToolProvider.getSystemJavaCompiler();
        StringWriter said = new StringWriter();
        try (StandardJavaFileManager files = compiler.getStandardFileManager(null, null, null)) {
            Iterable<? extends JavaFileObject> sources = files.getJavaFileObjects(file);
            List<String> options = List.of("-d", OUT.toString(), "-cp", System.getProperty("java.class.path"));
            boolean isMade = compiler.getTask(said, files, null, options, null, sources).call();
            Check.due("the Java of the page compiles: " + said, isMade ? 1 : 0, 1);
            if (!isMade) {
                Check.end();
            }
        }
    }

    private static void allCallsAreShown(List<List<String>> blocks) {
        StringBuilder shown = new StringBuilder();
        blocks.forEach(block -> block.forEach(line -> shown.append(line.replaceAll("//.*$", "")).append('\n')));
        for (Method m : CoasterDay.class.getDeclaredMethods()) {
            if (Modifier.isPublic(m.getModifiers())) {
                Check.due("day." + m.getName() + "( is shown", shown.indexOf("day." + m.getName() + "(") >= 0 ? 1 : 0, 1);
            }
        }
    }

    private static void allTestsAreNamed(String page) throws IOException {
        Check.due(".ci/run is named", page.contains("`.ci/run`") ? 1 : 0, 1);
        try (Stream<Path> files = Files.list(Path.of("src", "test", "java"))) {
            files.map(file -> file.getFileName().toString()).filter(name -> name.endsWith("Test.java")).sorted()
                .map(name -> name.replace(".java", ""))
                .forEach(name -> Check.due("`" + name + "` is named", page.contains("`" + name + "`") ? 1 : 0, 1));
        }
    }
}
