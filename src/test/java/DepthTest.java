import java.io.PrintWriter;
import java.io.StringWriter;
import java.nio.file.Files;
import java.nio.file.Path;
import java.util.ArrayList;
import java.util.HashMap;
import java.util.List;
import java.util.Map;
import java.util.Optional;
import java.util.Set;
import java.util.TreeMap;
import java.util.TreeSet;
import java.util.regex.Matcher;
import java.util.regex.Pattern;
import java.util.spi.ToolProvider;
import java.util.stream.Collectors;
import java.util.stream.Stream;

/**
 * Rules 8 and 11 of LANGUAGE.md: calls that are no recursion go at most eight deep (methods that
 * call one another count once), and no others than the parser's methods call one another. Which
 * method calls which is read from the compiled class.
 */
public final class DepthTest {
    private static final int DEEPEST = 8;
    private static final Set<String> RECURSIVE = Set.of("items", "anItem", "branch", "body", "block",
            "expression", "term", "part");
    private static final Pattern METHOD = Pattern.compile(" {2}(?:[\\w$.\\[\\]]+ )*([\\w$.]+)\\(.*\\);");
    private static final Pattern CALL = Pattern.compile("// Method (?:([\\w$/]+)\\.)?(\"<init>\"|\\w+):.*");
    private static final Checks CHECKS = new Checks();

    private final Map<String, Set<String>> calls = new TreeMap<>();
    private final Map<String, Set<String>> reached = new HashMap<>();
    private final Map<String, Integer> depths = new HashMap<>();

    private DepthTest() {
    }

    public static void main(String[] args) throws Exception {
        Optional<ToolProvider> javap = ToolProvider.findFirst("javap");
        if (javap.isEmpty()) {
            System.out.println("DepthTest: there is no javap here, nothing was looked at");
            return;
        }
        Path where = Path.of(KeptTree.class.getProtectionDomain().getCodeSource().getLocation().toURI());
        DepthTest test = new DepthTest();
        try (Stream<Path> files = Files.list(where)) {
            for (Path file : files.collect(Collectors.toList())) {
                if (file.getFileName().toString().matches("KeptTree(\\$\\w+)?\\.class")) {
                    test.read(javap.get(), file);
                }
            }
        }
        test.look();
        CHECKS.end("DepthTest");
    }

    private void read(ToolProvider javap, Path file) {
        StringWriter told = new StringWriter();
        int failed = javap.run(new PrintWriter(told), new PrintWriter(told), "-p", "-c", file.toString());
        CHECKS.due("javap of " + file, failed, 0);
        String owner = file.getFileName().toString().replace(".class", "");
        String from = "";
        for (String line : told.toString().split("\n")) {
            Matcher method = METHOD.matcher(line);
            if (method.matches()) {
                boolean maker = method.group(1).equals(owner);
                from = owner + "." + (maker ? "\"<init>\"" : method.group(1));
                calls.putIfAbsent(from, new TreeSet<>());
            }
            Matcher call = CALL.matcher(line);
            if (call.find()) {
                String of = call.group(1) == null ? owner : call.group(1);
                if (of.startsWith("KeptTree")) {
                    calls.get(from).add(of + "." + call.group(2));
                }
            }
        }
    }

    private Set<String> callsOf(String method) {
        return calls.getOrDefault(method, Set.of());
    }

    /** All that a method calls, by others as well. */
    private Set<String> reachedFrom(String method) {
        Set<String> known = reached.get(method);
        if (known != null) {
            return known;
        }
        Set<String> all = new TreeSet<>();
        List<String> open = new ArrayList<>(callsOf(method));
        while (!open.isEmpty()) {
            String next = open.remove(open.size() - 1);
            if (all.add(next)) {
                open.addAll(callsOf(next));
            }
        }
        reached.put(method, all);
        return all;
    }

    private boolean callOneAnother(String one, String other) {
        return one.equals(other) || reachedFrom(one).contains(other) && reachedFrom(other).contains(one);
    }

    /** How many calls stand open at once at most, it as well. */
    private int depthOf(String method) {
        Integer known = depths.get(method);
        if (known != null) {
            return known;
        }
        int below = 0;
        for (String mate : calls.keySet()) {
            if (callOneAnother(mate, method)) {
                for (String next : callsOf(mate)) {
                    below = callOneAnother(next, method) ? below : Math.max(below, depthOf(next));
                }
            }
        }
        depths.put(method, below + 1);
        return below + 1;
    }

    private void look() {
        CHECKS.due("methods were found", calls.size() > 100 ? 1 : 0, 1);
        int recursive = 0;
        for (String method : calls.keySet()) {
            CHECKS.due(method + " goes " + depthOf(method) + " deep", depthOf(method) <= DEEPEST ? 1 : 0, 1);
            if (reachedFrom(method).contains(method)) {
                recursive++;
                String name = method.substring(method.indexOf('.') + 1);
                CHECKS.due(method + " calls itself", RECURSIVE.contains(name) ? 1 : 0, 1);
            }
        }
        CHECKS.due("methods that call themselves", recursive, RECURSIVE.size());
    }
}
