import java.io.IOException;
import java.lang.reflect.Field;
import java.net.URL;
import java.net.URLClassLoader;
import java.nio.file.Files;
import java.nio.file.Path;
import java.util.Set;
import java.util.TreeSet;
import java.util.regex.Matcher;
import java.util.regex.Pattern;
import java.util.stream.Stream;
import javax.tools.ToolProvider;

/** What README.md shows is compiled, run and held against the answers that it tells; run from the project's folder. */
public final class ReadmeTests {
    private static final Pattern EXAMPLE = Pattern.compile("```java\n(.*?)```", Pattern.DOTALL);
    private static final Pattern TOLD = Pattern.compile("(?m)^s\\.(.*?); +// (-?\\d+).*$");
    private static final Pattern NAMED = Pattern.compile("(?m)^\\| (-\\d) \\| `([A-Z]+)` \\|");
    private static final int LEAST_CALLS = 15;

    private static int wrong = 0;

    public static void main(String[] args) throws Exception {
        String readme = Files.readString(Path.of("README.md"));
        example(readme);
        belowNought(readme);
        end();
    }

    /** Called by the example, too, which runs as a class of its own. */
    public static void due(String call, long got, long want) {
        if (got != want) {
            wrong++;
            System.out.println("README.md tells " + want + " for " + call + ", the class answers " + got);
        }
    }

    private static void fail(String what) {
        wrong++;
        System.out.println(what);
    }

    private static void end() {
        System.out.println(wrong == 0 ? "README.md tells the truth" : wrong + " answers are not as README.md tells");
        if (wrong != 0) {
            System.exit(1);
        }
    }

    private static void example(String readme) throws Exception {
        Matcher block = EXAMPLE.matcher(readme);
        if (!block.find()) {
            fail("README.md has no example");
            return;
        }
        long told = TOLD.matcher(block.group(1)).results().count();
        if (told < LEAST_CALLS) {
            fail("README.md tells the answers of " + told + " calls alone");
        }
        String body = TOLD.matcher(block.group(1)).replaceAll("ReadmeTests.due(\"$1\", s.$1, $2L);");
        Path folder = Files.createTempDirectory("readme");
        try {
            compileAndRun(folder, "public class Example { public static void run() {\n" + body + "} }\n");
        } finally {
            remove(folder);
        }
    }

    private static void compileAndRun(Path folder, String source) throws Exception {
        Path file = Files.writeString(folder.resolve("Example.java"), source);
        int failed = ToolProvider.getSystemJavaCompiler().run(null, null, null,
            "-cp", System.getProperty("java.class.path"), "-d", folder.toString(), file.toString());
        if (failed != 0) {
            fail("the example of README.md can't be compiled");
            return;
        }
        try (URLClassLoader loader = new URLClassLoader(new URL[] {folder.toUri().toURL()})) {
            loader.loadClass("Example").getMethod("run").invoke(null);
        }
    }

    private static void remove(Path folder) throws IOException {
        try (Stream<Path> files = Files.list(folder)) {
            for (Path file : files.toList()) {
                Files.delete(file);
            }
        }
        Files.delete(folder);
    }

    /** Each constant of the face stands in the table with its number, and no other. */
    private static void belowNought(String readme) throws IllegalAccessException {
        Set<String> told = new TreeSet<>();
        Matcher row = NAMED.matcher(readme);
        while (row.find()) {
            told.add(row.group(2) + " " + row.group(1));
        }
        Set<String> due = new TreeSet<>();
        for (Field f : SecondWish.class.getFields()) {
            due.add(f.getName() + " " + f.getInt(null));
        }
        if (!told.equals(due)) {
            fail("README.md tells " + told + ", the constants are " + due);
        }
    }
}
