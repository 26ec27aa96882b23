import java.io.IOException;
import java.lang.reflect.Constructor;
import java.lang.reflect.Field;
import java.lang.reflect.Method;
import java.lang.reflect.Modifier;
import java.nio.charset.StandardCharsets;
import java.nio.file.Files;
import java.nio.file.Path;
import java.util.Arrays;
import java.util.Set;
import java.util.TreeSet;
import java.util.regex.Pattern;

/** The face of the document, and those rules of LANGUAGE.md that a scan of the source can see. */
public final class LanguageTest {
    private static final String FACE = "feed load edit rename drop wrap swap copy unwrap mend undo redo count octet"
            + " token tokenAt node child find cover common match line column begin begun level blanks alike twins"
            + " longest wrong dirty lost greatest whole share names uses value told item far";
    private static final String[] BARRED = {
        "throw", "throws", "try", "catch", "finally", "synchronized", "assert", "package", "native", "volatile",
        "hashCode", "Thread", "Random", "protected", "Exception", "Error", "Throwable", "nanoTime",
        "currentTimeMillis", "addExact", "subtractExact", "multiplyExact", "toIntExact", "Class", "Object",
    };
    private static final Checks CHECKS = new Checks();

    private LanguageTest() {
    }

    public static void main(String[] args) throws IOException {
        face();
        source(Files.readString(Path.of("src/main/java/KeptTree.java"), StandardCharsets.ISO_8859_1));
        CHECKS.end("LanguageTest");
    }

    private static void holds(String what, boolean held) {
        CHECKS.due(what, held ? 1 : 0, 1);
    }

    private static void face() {
        Set<String> wanted = new TreeSet<>(Arrays.asList(FACE.split(" ")));
        holds("public final", Modifier.isPublic(KeptTree.class.getModifiers())
                && Modifier.isFinal(KeptTree.class.getModifiers()));
        Set<String> found = new TreeSet<>();
        for (Method m : KeptTree.class.getDeclaredMethods()) {
            boolean open = Modifier.isPublic(m.getModifiers());
            holds(m + " is public or private", m.isSynthetic() || open || Modifier.isPrivate(m.getModifiers()));
            if (open) {
                found.add(m.getName());
                holds(m + " answers an int", m.getReturnType() == (m.getName().equals("value") ? long.class : int.class));
                for (Class<?> type : m.getParameterTypes()) {
                    holds(m + " takes ints", type == int.class);
                }
            }
        }
        holds("the face is " + found, found.equals(wanted));
        for (Field f : KeptTree.class.getDeclaredFields()) {
            holds(f + " is private", f.getName().equals("NONE") || Modifier.isPrivate(f.getModifiers()));
        }
        for (Constructor<?> c : KeptTree.class.getDeclaredConstructors()) {
            holds(c + " is public, without parameters",
                    Modifier.isPublic(c.getModifiers()) && c.getParameterCount() == 0);
        }
        holds("at most twelve classes", KeptTree.class.getDeclaredClasses().length <= 11);
        for (Class<?> inside : KeptTree.class.getDeclaredClasses()) {
            inside(inside, wanted);
        }
        fields(KeptTree.class);
    }

    private static void inside(Class<?> inside, Set<String> wanted) {
        holds(inside + " is static", Modifier.isStatic(inside.getModifiers()));
        holds(inside + " is not public", !Modifier.isPublic(inside.getModifiers()));
        for (Method m : inside.getDeclaredMethods()) {
            holds(m + " has a name of its own", !wanted.contains(m.getName()));
            holds(m + " has at most seven parameters", m.getParameterCount() <= 7);
        }
        fields(inside);
    }

    private static void fields(Class<?> of) {
        int many = 0;
        for (Field f : of.getDeclaredFields()) {
            if (Modifier.isStatic(f.getModifiers())) {
                holds(f + " is final", Modifier.isFinal(f.getModifiers()));
            } else {
                many++;
            }
        }
        holds(of + " has some twenty fields", many <= 20);
    }

    private static void source(String text) {
        String code = text.replaceAll("(?s)/\\*.*?\\*/", "").replaceAll("//[^\n]*", "")
                .replaceAll("\"[^\"\n]*\"", "\"\"").replaceAll("'[^']'", "' '");
        for (String word : BARRED) {
            holds("no " + word, !Pattern.compile("\\b" + word + "\\b").matcher(code).find());
        }
        holds("no lambda", !Pattern.compile("(?m)^(?!\\s*(case|default)\\b).*->").matcher(code).find());
        holds("of System arraycopy alone", !Pattern.compile("\\bSystem\\b(?!\\.arraycopy)").matcher(code).find());
        holds("of java.util lists and rows alone",
                !Pattern.compile("(?m)^import (?!java\\.util\\.(ArrayList|List|Arrays|Iterator);)").matcher(code).find());
        holds("no method reference", !code.contains("::"));
        for (char sign : text.toCharArray()) {
            if (sign > 126) {
                holds("plain signs alone", false);
            }
        }
        methodsAreShort(code);
    }

    private static void methodsAreShort(String code) {
        int open = -1;
        String[] lines = code.split("\n");
        for (int i = 0; i < lines.length; i++) {
            if (lines[i].matches(" {4,8}[\\w ]*[\\w\\[\\]]+ \\w+\\(.*\\) \\{")) {
                open = i;
            } else if (open >= 0 && lines[i].matches(" {4}(?: {4})?\\}")) {
                holds("line " + (open + 1) + ": a method of " + (i - open + 1) + " lines", i - open + 1 <= 60);
                open = -1;
            }
        }
    }
}
