import java.io.IOException;
import java.lang.reflect.Method;
import java.lang.reflect.Modifier;
import java.net.URL;
import java.net.URLClassLoader;
import java.nio.charset.StandardCharsets;
import java.nio.file.Files;
import java.nio.file.Path;
import java.util.Comparator;
import java.util.List;
import java.util.Set;
import java.util.TreeSet;
import java.util.function.BiConsumer;
import java.util.regex.Matcher;
import java.util.regex.Pattern;
import java.util.stream.Collectors;
import java.util.stream.Stream;
import javax.tools.ToolProvider;

/**
 * The Java of README.md is compiled and run: each call has to answer what the comment behind it
 * begins with, and each call of the face has to be there.
 */
public final class ReadmeTest {
    private static final Pattern BLOCK = Pattern.compile("(?s)```java\n(.*?)```");
    private static final Pattern CALL = Pattern.compile("(tree\\.(\\w+)\\(.*\\)); +// (-?\\d+|Long\\.MIN_VALUE)(?!\\w).*");
    private static final Checks CHECKS = new Checks();
    private static final Set<String> SHOWN = new TreeSet<>();

    private ReadmeTest() {
    }

    public static void main(String[] args) throws Exception {
        String source = sourceOf(Files.readString(Path.of("README.md"), StandardCharsets.UTF_8));
        runIn(Files.createTempDirectory("readme"), source);
        faceIsShown();
        CHECKS.end("ReadmeTest");
    }

    /** A class of all that README.md shows; a new object begins a block of its own. */
    private static String sourceOf(String page) {
        StringBuilder members = new StringBuilder();
        StringBuilder lines = new StringBuilder();
        Matcher block = BLOCK.matcher(page);
        while (block.find()) {
            if (block.group(1).startsWith("static ")) {
                members.append(block.group(1));
            } else {
                block.group(1).lines().forEach(line -> lines.append(checked(line)).append('\n'));
            }
        }
        return "public final class Shown {\n" + members
                + "public static void run(java.util.function.BiConsumer<String, long[]> due) {\n{\n"
                + lines + "}\n}\n}\n";
    }

    private static String checked(String line) {
        if (line.startsWith("KeptTree ")) {
            return "} {\n" + line;
        }
        Matcher call = CALL.matcher(line);
        boolean told = call.matches();
        CHECKS.due("README.md tells what is answered: " + line, told ? 1 : 0, 1);
        if (!told) {
            return line;
        }
        SHOWN.add(call.group(2));
        String quoted = call.group(1).replace("\\", "\\\\").replace("\"", "\\\"");
        return "due.accept(\"" + quoted + "\", new long[] {" + call.group(1) + ", " + call.group(3) + "});";
    }

    private static void runIn(Path where, String source) throws Exception {
        try {
            Path file = where.resolve("Shown.java");
            Files.writeString(file, source, StandardCharsets.UTF_8);
            int made = ToolProvider.getSystemJavaCompiler().run(null, null, null, "-d", where.toString(),
                    "-cp", System.getProperty("java.class.path"), file.toString());
            CHECKS.due("README.md compiles", made, 0);
            if (made == 0) {
                try (URLClassLoader loader = new URLClassLoader(new URL[] {where.toUri().toURL()})) {
                    BiConsumer<String, long[]> due =
                            (call, answers) -> CHECKS.due("README.md: " + call, answers[0], answers[1]);
                    loader.loadClass("Shown").getMethod("run", BiConsumer.class).invoke(null, due);
                }
            }
        } finally {
            clear(where);
        }
    }

    private static void clear(Path where) throws IOException {
        List<Path> all;
        try (Stream<Path> within = Files.walk(where)) {
            all = within.sorted(Comparator.reverseOrder()).collect(Collectors.toList());
        }
        for (Path one : all) {
            Files.delete(one);
        }
    }

    private static void faceIsShown() {
        for (Method m : KeptTree.class.getDeclaredMethods()) {
            if (Modifier.isPublic(m.getModifiers())) {
                CHECKS.due("README.md shows " + m.getName(), SHOWN.contains(m.getName()) ? 1 : 0, 1);
            }
        }
    }
}
