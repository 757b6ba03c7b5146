import java.io.StringWriter;
import java.lang.reflect.Field;
import java.lang.reflect.Method;
import java.lang.reflect.Modifier;
import java.net.URL;
import java.net.URLClassLoader;
import java.nio.file.Files;
import java.nio.file.Path;
import java.util.ArrayList;
import java.util.Comparator;
import java.util.List;
import java.util.Set;
import java.util.TreeSet;
import java.util.regex.Matcher;
import java.util.regex.Pattern;
import java.util.stream.Stream;
import javax.tools.JavaCompiler;
import javax.tools.StandardJavaFileManager;
import javax.tools.ToolProvider;

/** README.md tells the truth: its examples compile and answer as it says, its lists are whole. */
public final class ReadmeTest {
    private static final Check CHECK = new Check();
    private static final Pattern BLOCK = Pattern.compile("(?s)```java\n(.*?)```");
    /** A call on a line of its own with the answer told behind it. */
    private static final Pattern ANSWERED = Pattern.compile("(?m)^(x\\.(\\w+)\\([^)]*\\)); *// (-?\\d+).*$");

    public static void main(String[] args) throws Exception {
        Path here = Path.of(args.length > 0 ? args[0] : ".");
        String page = Files.readString(here.resolve("README.md"));
        String example = example(page);
        everyCallIsShown(example);
        everyConstantIsTold(page);
        everyTestIsListed(page, here.resolve("src/test/java"));
        CHECK.due("README.md tells how to run the tests", page.contains("\nbash .ci/run\n") ? 1 : 0, 1);
        runExample(example);
        CHECK.end();
    }

    private static String example(String page) {
        StringBuilder all = new StringBuilder();
        Matcher block = BLOCK.matcher(page);
        while (block.find()) {
            all.append(block.group(1));
        }
        return all.toString();
    }

    private static void everyCallIsShown(String example) {
        for (Method m : OverAndBack.class.getDeclaredMethods()) {
            if (Modifier.isPublic(m.getModifiers())) {
                CHECK.due("README.md shows " + m.getName(), example.contains("x." + m.getName() + "(") ? 1 : 0, 1);
            }
        }
    }

    private static void everyConstantIsTold(String page) throws Exception {
        for (Field f : OverAndBack.class.getFields()) {
            String row = "| `" + f.getName() + "` | " + f.getInt(null) + " |";
            CHECK.due("README.md tells " + row, page.contains(row) ? 1 : 0, 1);
        }
    }

    private static void everyTestIsListed(String page, Path folder) throws Exception {
        Set<String> there = new TreeSet<>();
        try (Stream<Path> files = Files.list(folder)) {
            files.map(f -> f.getFileName().toString()).filter(f -> f.endsWith("Test.java"))
                .forEach(f -> there.add(f.replace(".java", "")));
        }
        Set<String> listed = new TreeSet<>();
        Matcher row = Pattern.compile("(?m)^\\| (\\w+Test) \\|").matcher(page);
        while (row.find()) {
            listed.add(row.group(1));
        }
        CHECK.due("README.md lists " + listed + ", there are " + there, listed.equals(there) ? 1 : 0, 1);
    }

    /** Compiles the page's code with each answer compared, and runs it. */
    private static void runExample(String example) throws Exception {
        Matcher answered = ANSWERED.matcher(example);
        int answers = (int) answered.results().count();
        int calls = (int) Pattern.compile("(?m)^x\\.").matcher(example).results().count();
        CHECK.due("calls of README.md whose answers it tells", answers, calls);
        String body = answered.reset().replaceAll("got.add($1); told.add($3);");
        String source = "public class Example { public static void run(java.util.List<Integer> got, java.util.List<Integer> told) {\n"
            + body + "} }\n";
        Path folder = Files.createTempDirectory("readme");
        try {
            if (compiles(folder, source)) {
                compare(folder, example);
            }
        } finally {
            clear(folder);
        }
    }

    private static boolean compiles(Path folder, String source) throws Exception {
        Path file = folder.resolve("Example.java");
        Files.writeString(file, source);
        JavaCompiler compiler = ToolProvider.getSystemJavaCompiler();
        StringWriter said = new StringWriter();
        try (StandardJavaFileManager files = compiler.getStandardFileManager(null, null, null)) {
            List<String> options = List.of("-proc:none", "-d", folder.toString(), "-cp", System.getProperty("java.class.path"));
            boolean good = compiler.getTask(said, files, null, options, null, files.getJavaFileObjects(file)).call();
            CHECK.due("README.md's code compiles " + said, good ? 1 : 0, 1);
            return good;
        }
    }

    private static void compare(Path folder, String example) throws Exception {
        List<Integer> got = new ArrayList<>();
        List<Integer> told = new ArrayList<>();
        try (URLClassLoader loader = new URLClassLoader(new URL[] {folder.toUri().toURL()}, ReadmeTest.class.getClassLoader())) {
            loader.loadClass("Example").getMethod("run", List.class, List.class).invoke(null, got, told);
        }
        Matcher answered = ANSWERED.matcher(example);
        for (int k = 0; k < got.size() && answered.find(); k++) {
            CHECK.due("README.md: " + answered.group(1), got.get(k), told.get(k));
        }
    }

    private static void clear(Path folder) throws Exception {
        try (Stream<Path> files = Files.walk(folder)) {
            for (Path file : files.sorted(Comparator.reverseOrder()).toList()) {
                Files.delete(file);
            }
        }
    }
}
