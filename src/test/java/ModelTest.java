import java.util.ArrayList;
import java.util.List;
import java.util.Random;
import java.util.function.ToIntFunction;

/**
 * Runs of chance calls (of fixed seeds) on the class and on the model of the document. An object
 * gets at most 512 calls: behind these a new one is brought to where the old one was.
 */
public final class ModelTest {
    private static final String[] PIECES = {
        "a", "b", "ab", "x", "if", "else", "while", "if ", "else ", "while ", "=", "(", ")", "{", "}", ";",
        ",", "+", "-", "*", "/", " ", "\n", "#", "'", "'q'", "''", "1", "20", "007", "1234567890123",
        "a=1;", "f(a,b);", "f();", "f(", "{a=b;}", "if a {", "} else ", "while (a) b=2;", "((", "))", "{{{",
        "}}}", "((((((((((", "{{{{{{{{{{", "if if if ", "a=", "a(", "+a", "*3", "# c\n", ";;", "a=2;b=a;",
        "\t", "A", "\u00e9", "\u00ff", "\u0000", "  ", "\n  ", "a=b*(1+2)-c/0;", "a=9*9*9;",
    };
    private static final int MOST_CALLS = 512;
    private static final int MOST_ACTS = 300;
    private static final String[] WORDS = {"a", "b", "ab", "if", "else", "while", "x", "zzzzzzzz", "f", "q1"};

    private final Random chance;
    private final Checks checks;
    private final Model m = new Model();
    private final List<ToIntFunction<KeptTree>> acts = new ArrayList<>();
    private KeptTree object = new KeptTree();
    private int calls = 0;
    private final int run;
    private final int style;

    private ModelTest(int run, Checks checks) {
        this.run = run;
        this.checks = checks;
        chance = new Random(run);
        style = chance.nextInt(4);
    }

    public static void main(String[] args) {
        Checks checks = new Checks();
        int runs = args.length > 0 ? Integer.parseInt(args[0]) : 1500;
        int first = args.length > 1 ? Integer.parseInt(args[1]) : 0;
        for (int run = first; run < first + runs && checks.wrong() < 20; run++) {
            ModelTest test = new ModelTest(run, checks);
            int steps = 12 + test.chance.nextInt(40);
            for (int step = 0; step < steps && checks.wrong() < 20 && test.acts.size() < MOST_ACTS; step++) {
                test.act();
                test.compareSome(6);
                if (test.chance.nextInt(40) == 0) {
                    test.compareAll();
                }
            }
        }
        checks.end("ModelTest");
    }

    private void due(String call, long got, long want) {
        checks.due("run " + run + ": " + call + " of [" + m.text.replace("\n", "\\n") + "]", got, want);
    }

    /** The object, for one question. */
    private KeptTree x() {
        if (calls >= MOST_CALLS) {
            object = new KeptTree();
            for (ToIntFunction<KeptTree> act : acts) {
                act.applyAsInt(object);
            }
            calls = acts.size();
        }
        calls++;
        return object;
    }

    /** A call that changes the object: it is made again where a new one comes for this one. */
    private int made(ToIntFunction<KeptTree> act) {
        int answer = act.applyAsInt(x());
        acts.add(act);
        return answer;
    }

    private String piece() {
        if (style == 3 && chance.nextInt(3) > 0) {
            return PIECES[10 + chance.nextInt(11)];
        }
        return PIECES[chance.nextInt(PIECES.length)];
    }

    private String pieces(int most) {
        StringBuilder all = new StringBuilder();
        int wanted = chance.nextInt(most + 1);
        while (all.length() < wanted) {
            all.append(piece());
        }
        return all.toString();
    }

    private int feed(String text) {
        StringBuilder all = new StringBuilder(text);
        while (all.length() % 20 != 0) {
            all.append(chance.nextBoolean() ? ' ' : 'a');
        }
        for (int i = 0; i < all.length(); i += 20) {
            int a = Texts.four(all, i);
            int b = Texts.four(all, i + 4);
            int c = Texts.four(all, i + 8);
            int d = Texts.four(all, i + 12);
            int e = Texts.four(all, i + 16);
            due("feed", made(x -> x.feed(a, b, c, d, e)), m.feed(a, b, c, d, e));
        }
        return text.length();
    }

    private int anItem() {
        int items = m.item(-1, 0);
        if (items == 0 || chance.nextInt(10) == 0) {
            return aNode();
        }
        return m.item(chance.nextInt(items), 0);
    }

    private int aNode() {
        return chance.nextInt(m.count(2) + 3) - 1;
    }

    private int ofSort(int sort) {
        int many = m.find(sort, -1);
        return many == 0 || chance.nextInt(10) == 0 ? aNode() : m.find(sort, chance.nextInt(many));
    }

    private void act() {
        switch (chance.nextInt(16)) {
            case 0:
                loadAny();
                break;
            case 1:
            case 2:
            case 3:
            case 4:
            case 5:
                editAny();
                break;
            case 6:
                renameAny();
                break;
            case 7:
                int dropped = anItem();
                due("drop(" + dropped + ")", made(x -> x.drop(dropped)), m.drop(dropped));
                break;
            case 8:
                int wrapped = anItem();
                due("wrap(" + wrapped + ")", made(x -> x.wrap(wrapped)), m.wrap(wrapped));
                break;
            case 9:
                int one = anItem();
                int other = anItem();
                due("swap(" + one + ", " + other + ")", made(x -> x.swap(one, other)), m.swap(one, other));
                break;
            case 10:
                int from = anItem();
                int to = anItem();
                due("copy(" + from + ", " + to + ")", made(x -> x.copy(from, to)), m.copy(from, to));
                break;
            case 11:
                int block = ofSort(5);
                due("unwrap(" + block + ")", made(x -> x.unwrap(block)), m.unwrap(block));
                break;
            case 12:
                due("mend()", made(x -> x.mend()), m.mend());
                break;
            case 13:
                due("redo()", made(x -> x.redo()), m.redo());
                break;
            default:
                due("undo()", made(x -> x.undo()), m.undo());
                break;
        }
    }

    private void loadAny() {
        int fed = feed(pieces(chance.nextBoolean() ? 300 : 60));
        int n = chance.nextInt(8) == 0 ? chance.nextInt(340) - 5 : Math.min(fed, m.tape.length());
        due("load(" + n + ")", made(x -> x.load(n)), m.load(n));
    }

    private void editAny() {
        int fed = feed(pieces(chance.nextInt(4) == 0 ? 60 : 8));
        int size = m.text.length();
        boolean wild = chance.nextInt(20) == 0;
        int a = wild ? chance.nextInt(size + 6) - 3 : chance.nextInt(size + 1);
        int b = wild ? chance.nextInt(size + 6) - 3 : Math.min(size, a + chance.nextInt(style == 0 ? 3 : 12));
        int n = chance.nextInt(20) == 0 ? chance.nextInt(24) - 2 : Math.min(fed, m.tape.length());
        due("edit(" + a + ", " + b + ", " + n + ")", made(x -> x.edit(a, b, n)), m.edit(a, b, n));
    }

    private void renameAny() {
        int fed = feed(WORDS[chance.nextInt(WORDS.length)]);
        int n = chance.nextInt(10) == 0 ? chance.nextInt(24) - 2 : fed;
        int node = ofSort(12);
        due("rename(" + node + ", " + n + ")", made(x -> x.rename(node, n)), m.rename(node, n));
    }

    private int near(int size) {
        return chance.nextInt(30) == 0 ? chance.nextInt() : chance.nextInt(size + 5) - 2;
    }

    private void compareSome(int many) {
        for (int i = 0; i < many; i++) {
            int p = near(m.count(2));
            int q = near(m.count(2));
            int byteAt = near(m.text.length());
            int byteBehind = chance.nextBoolean() ? byteAt + chance.nextInt(9) : near(m.text.length());
            int few = near(12);
            int lineAt = near(m.count(11));
            int sort = near(18);
            String by = "(" + p + ", " + q + "; " + byteAt + ", " + byteBehind + "; " + few + ", " + sort + ")";
            due("count" + by, x().count(few), m.count(few));
            due("octet" + by, x().octet(byteAt), m.octet(byteAt));
            due("token" + by, x().token(byteAt, few), m.token(byteAt, few));
            due("tokenAt" + by, x().tokenAt(byteAt), m.tokenAt(byteAt));
            due("node" + by, x().node(p, few), m.node(p, few));
            due("child" + by, x().child(p, few), m.child(p, few));
            due("find" + by, x().find(sort, few), m.find(sort, few));
            due("cover" + by, x().cover(byteAt, byteBehind), m.cover(byteAt, byteBehind));
            due("common" + by, x().common(p, q), m.common(p, q));
            due("match" + by, x().match(byteAt), m.match(byteAt));
            due("line" + by, x().line(byteAt), m.line(byteAt));
            due("column" + by, x().column(byteAt), m.column(byteAt));
            due("alike" + by, x().alike(p, q), m.alike(p, q));
            due("longest" + by, x().longest(sort, few), m.longest(sort, few));
            due("wrong" + by, x().wrong(q, few), m.wrong(q, few));
            due("wrong" + by, x().wrong(sort, few & 3), m.wrong(sort, few & 3));
            due("dirty" + by, x().dirty(few), m.dirty(few));
            due("lost" + by, x().lost(sort), m.lost(sort));
            due("greatest" + by, x().greatest(few), m.greatest(few));
            due("names" + by, x().names(few), m.names(few));
            due("uses" + by, x().uses(p), m.uses(p));
            due("value" + by, x().value(p), m.value(p));
            due("told" + by, x().told(p), m.told(p));
            due("item" + by, x().item(few, sort), m.item(few, sort));
            due("item" + by, x().item(few, sort & 3), m.item(few, sort & 3));
            due("far" + by, x().far(p, q), m.far(p, q));
            due("begin" + by, x().begin(lineAt), m.begin(lineAt));
            due("begun" + by, x().begun(lineAt), m.begun(lineAt));
            due("level" + by, x().level(lineAt), m.level(lineAt));
            due("blanks" + by, x().blanks(lineAt), m.blanks(lineAt));
        }
        int any = aNode();
        due("twins(" + any + ")", x().twins(any), m.twins(any));
        due("whole()", x().whole(), m.whole());
        due("share()", x().share(), m.share());
    }

    private void compareAll() {
        for (int what = 0; what < 12; what++) {
            due("count(" + what + ")", x().count(what), m.count(what));
        }
        for (int i = 0; i <= m.text.length(); i++) {
            due("octet(" + i + ")", x().octet(i), m.octet(i));
            due("match(" + i + ")", x().match(i), m.match(i));
        }
        for (int i = 0; i < m.count(1); i++) {
            for (int what = 0; what < 6; what++) {
                due("token(" + i + ", " + what + ")", x().token(i, what), m.token(i, what));
            }
        }
        for (int i = 0; i < m.count(2); i++) {
            for (int what = 0; what < 12; what++) {
                due("node(" + i + ", " + what + ")", x().node(i, what), m.node(i, what));
            }
            due("value(" + i + ")", x().value(i), m.value(i));
            due("told(" + i + ")", x().told(i), m.told(i));
        }
        for (int sort = 0; sort < 18; sort++) {
            due("lost(" + sort + ")", x().lost(sort), m.lost(sort));
        }
        for (int what = 0; what < 4; what++) {
            due("dirty(" + what + ")", x().dirty(what), m.dirty(what));
        }
    }
}
