import java.util.List;
import java.util.function.ToLongFunction;

/**
 * "A call that is refused (NONE, -2, -3) changes nothing", and "of several reasons NONE comes first,
 * then -2, and so on": each reason of each call, with all that the object answers ahead of it and
 * behind it, the tape, what can be undone and what can be done again as well.
 */
public final class RefusedTest {
    private static final int NONE = KeptTree.NONE;
    private static final int MAX = Integer.MAX_VALUE;
    private static final int MIN = Integer.MIN_VALUE;
    private static final Checks CHECKS = new Checks();

    // of each sort of fault one, acts to be undone and one to be done again, a tape with words and a digit
    private static final Run FEW = x -> {
        Texts.load(x, "? {a=b;}\n bb=1;? f(");
        Texts.edit(x, 0, 1, ";");
        Texts.edit(x, 0, 0, "#\n");
        x.undo();
        Texts.edit(x, 1, 1, " ");
        x.edit(0, 0, 0);
        x.undo();
        Texts.tape(x, "ifelsewhileab7");
    };

    // a full text: no byte more has room
    private static final Run FULL = x -> {
        Texts.load(x, "?{a=b;}a=a;" + "; ".repeat(143) + "f(");
        Texts.edit(x, 298, 299, "g");
        x.undo();
        Texts.edit(x, 297, 298, "h");
        x.edit(20, 21, 0);
        x.undo();
        Texts.tape(x, "ifelsewhilezz");
    };

    // nothing was ever done, twelve acts and more were done
    private static final Run NEW = x -> { };
    private static final Run OFTEN = x -> {
        for (int i = 0; i < 15; i++) {
            Texts.edit(x, 0, 0, i % 2 == 0 ? ";" : "a=1;");
        }
    };
    private static final Run ALL_UNDONE = OFTEN.and(x -> {
        for (int i = 0; i < 12; i++) {
            x.undo();
        }
    });

    private RefusedTest() {
    }

    public static void main(String[] args) {
        due("the full text", FULL.made().count(0), 299);
        feeds();
        loads();
        edits();
        renames();
        drops();
        wraps();
        swaps();
        copies();
        unwraps();
        mends();
        undosAndRedos();
        questions();
        CHECKS.end("RefusedTest");
    }

    private static void due(String what, long got, long want) {
        CHECKS.due(what, got, want);
    }

    /** The call answers so behind the run, and nothing is another than it was. */
    private static void refused(String what, Run run, long want, ToLongFunction<KeptTree> call) {
        due(what, call.applyAsLong(run.made()), want);
        List<String> ahead = Look.at(run);
        List<String> behind = Look.at(run.and(x -> call.applyAsLong(x)));
        String difference = Look.difference(ahead, behind);
        due(what + " changed: " + difference, difference.isEmpty() ? 1 : 0, 1);
    }

    private static void feeds() {
        Run full = FEW.and(x -> {
            for (int i = 0; i < 14; i++) {
                x.feed(i, i, i, i, i);
            }
        });
        due("the tape is full", full.made().count(8), 300);
        refused("feed of a full tape", full, NONE, x -> x.feed(1, 2, 3, 4, 5));
    }

    private static void loads() {
        refused("load of an empty tape", NEW, NONE, x -> x.load(1));
        refused("load: not so many", FEW, NONE, x -> x.load(21));
        refused("load: not so many", FEW, NONE, x -> x.load(MAX));
        refused("load: below 0", FEW, NONE, x -> x.load(-1));
        refused("load: below 0", FEW, NONE, x -> x.load(MIN));
    }

    private static void edits() {
        refused("edit: a below 0", FEW, NONE, x -> x.edit(-1, 1, 1));
        refused("edit: a above b", FEW, NONE, x -> x.edit(2, 1, 1));
        refused("edit: b above all", FEW, NONE, x -> x.edit(0, x.count(0) + 1, 1));
        refused("edit: not so many", FEW, NONE, x -> x.edit(0, 1, 21));
        refused("edit: n below 0", FEW, NONE, x -> x.edit(0, 1, -1));
        refused("edit: above 300", FULL, -2, x -> x.edit(0, 0, 2));
        refused("edit: above 300", FULL, -2, x -> x.edit(299, 299, 20));
        refused("edit: above 300", FULL, -2, x -> x.edit(0, 18, 20));
        refused("edit: NONE ahead of -2", FULL, NONE, x -> x.edit(0, 300, 20));
        refused("edit: NONE ahead of -2", FULL, NONE, x -> x.edit(0, 0, 21));
        due("300 is not above 300", FULL.made().edit(0, 0, 1) >= 0 ? 1 : 0, 1);
    }

    private static int name(KeptTree x) {
        return x.find(12, 0);
    }

    private static void renames() {
        refused("rename: no NAME", FEW, NONE, x -> x.rename(0, 2));
        refused("rename: no NODE", FEW, NONE, x -> x.rename(MAX, 2));
        refused("rename: not so many", FEW, NONE, x -> x.rename(name(x), 21));
        refused("rename: n below 1", FEW, NONE, x -> x.rename(name(x), 0));
        refused("rename: others", FEW, NONE, x -> x.rename(name(x), 14));
        refused("rename: an empty tape", OFTEN, NONE, x -> x.rename(name(x), 1));
        refused("rename: if", FEW, -3, x -> x.rename(name(x), 2));
        Run bb = FEW.and(x -> x.edit(0, 0, 0)).and(x -> Texts.tape(x, "bb"));
        refused("rename: are so already", bb, -3, x -> x.rename(x.find(12, 2), 2));
        refused("rename: above 300", FULL, -2, x -> x.rename(name(x), 12));
        refused("rename: -2 ahead of -3", FULL, -2, x -> x.rename(name(x), 2));
        refused("rename: NONE ahead of -2, -3", FULL, NONE, x -> x.rename(0, 2));
        refused("rename: NONE ahead of -2", FULL, NONE, x -> x.rename(name(x), 20));
    }

    private static void drops() {
        refused("drop: FILE", FEW, NONE, x -> x.drop(0));
        refused("drop: REPEAT", FEW, NONE, x -> x.drop(1));
        refused("drop: NAME", FEW, NONE, x -> x.drop(name(x)));
        refused("drop: MISSING", FEW, NONE, x -> x.drop(x.find(17, 0)));
        refused("drop: LIST", FEW, NONE, x -> x.drop(x.find(4, 0)));
        refused("drop: no NODE", FEW, NONE, x -> x.drop(-1));
        refused("drop: no NODE", FEW, NONE, x -> x.drop(x.count(2)));
        refused("drop: of nothing", NEW, NONE, x -> x.drop(0));
    }

    private static void wraps() {
        refused("wrap: no ITEM", FEW, NONE, x -> x.wrap(1));
        refused("wrap: no NODE", FEW, NONE, x -> x.wrap(-1));
        refused("wrap: above 300", FULL, -2, x -> x.wrap(x.find(2, 0)));
        refused("wrap: above 300", FULL, -2, x -> x.wrap(x.find(9, 0)));
        refused("wrap: NONE ahead of -2", FULL, NONE, x -> x.wrap(0));
    }

    private static void swaps() {
        refused("swap: no ITEM", FEW, NONE, x -> x.swap(0, x.find(5, 0)));
        refused("swap: no ITEM", FEW, NONE, x -> x.swap(x.find(5, 0), x.find(5, 0) + 1));
        refused("swap: one and the same", FEW, NONE, x -> x.swap(x.find(5, 0), x.find(5, 0)));
        refused("swap: within", FEW, -2, x -> x.swap(x.find(5, 0), x.find(2, 0)));
        refused("swap: within", FEW, -2, x -> x.swap(x.find(2, 0), x.find(5, 0)));
        refused("swap: NONE ahead of -2", FEW, NONE, x -> x.swap(x.find(5, 0), name(x)));
    }

    private static void copies() {
        refused("copy: no ITEM", FEW, NONE, x -> x.copy(0, x.find(5, 0)));
        refused("copy: no ITEM", FEW, NONE, x -> x.copy(x.find(5, 0), 1));
        refused("copy: no NODE", FEW, NONE, x -> x.copy(MIN, x.find(5, 0)));
        refused("copy: above 300", FULL, -2, x -> x.copy(x.find(2, 0), x.find(2, 0)));
        refused("copy: NONE ahead of -2", FULL, NONE, x -> x.copy(x.find(2, 0), 0));
        due("300 is not above 300", FULL.made().copy(x(FULL, 9), x(FULL, 9)) >= 0 ? 1 : 0, 1);
    }

    private static int x(Run run, int sort) {
        return run.made().find(sort, 0);
    }

    private static void unwraps() {
        refused("unwrap: no BLOCK", FEW, NONE, x -> x.unwrap(x.find(2, 0)));
        refused("unwrap: no BLOCK", FEW, NONE, x -> x.unwrap(0));
        refused("unwrap: no NODE", FEW, NONE, x -> x.unwrap(MAX));
    }

    private static void mends() {
        refused("mend: of nothing", NEW, NONE, x -> x.mend());
        refused("mend: nothing is wrong", OFTEN, NONE, x -> x.mend());
        Run open = FEW.and(x -> x.edit(0, x.count(0), 0)).and(x -> Texts.edit(x, 0, 0, "a=;if"));
        refused("mend: MISSING of no sign", open, NONE, x -> x.mend());
        Run full = FULL.and(x -> x.drop(x.find(9, 0))).and(x -> Texts.edit(x, 0, 0, "; "));
        due("no byte has room", full.made().count(0), 300);
        refused("mend: above 300", full, -2, x -> x.mend());
    }

    private static void undosAndRedos() {
        refused("undo of nothing", NEW, NONE, x -> x.undo());
        refused("redo of nothing", NEW, NONE, x -> x.redo());
        refused("redo behind an ACT", OFTEN, NONE, x -> x.redo());
        refused("a thirteenth undo", ALL_UNDONE, NONE, x -> x.undo());
    }

    private static long noNodes(KeptTree x, int node) {
        return x.node(node, 0) & x.child(node, 0) & x.common(node, 0) & x.common(0, node) & x.alike(node, 0)
                & x.alike(0, node) & x.twins(node) & x.uses(node) & x.told(node) & x.far(node, 0) & x.far(0, node);
    }

    private static long noBytes(KeptTree x, int i) {
        return x.octet(i) & x.tokenAt(i) & x.match(i) & x.cover(i, MAX) & x.line(i) & x.column(i) & x.begin(i)
                & x.begun(i) & x.level(i) & x.blanks(i) & x.token(i, 0);
    }

    private static long noWhats(KeptTree x, int what) {
        return x.count(what) & x.token(0, what) & x.node(0, what) & x.find(what, 0) & x.longest(what, 0)
                & x.longest(0, what) & x.wrong(0, what) & x.dirty(what) & x.lost(what) & x.greatest(what) & x.item(0, what);
    }

    // all of the questions that are refused, and all that are not: none changes anything
    private static void questions() {
        for (Run run : List.of(NEW, FEW, ALL_UNDONE)) {
            for (int no : new int[] {-1, MIN, MAX}) {
                refused("no such NODE " + no, run, NONE, x -> noNodes(x, no));
                refused("no such byte " + no, run, NONE, x -> noBytes(x, no));
                refused("no such what " + no, run, NONE, x -> noWhats(x, no));
                refused("no NODE's value " + no, run, Long.MIN_VALUE, x -> x.value(no));
            }
            refused("k below NONE", run, NONE, x -> x.names(-2) & x.find(0, -2) & x.item(-2, 0) & x.child(0, -2));
            refused("not so many", run, -2, x -> x.names(MAX) & x.find(0, MAX) & x.item(MAX, 0) & x.child(0, MAX));
            refused("all that can be asked", run, 0, x -> {
                for (int i = 0; i < 5; i++) {
                    x.node(i, i);
                    x.token(i, i);
                    x.count(i);
                    x.value(i);
                    x.twins(i);
                    x.longest(i, 1);
                    x.find(i, 0);
                    x.cover(i, i + 1);
                    x.match(i);
                    x.names(i);
                    x.item(i, 1);
                    x.wrong(i, 1);
                    x.dirty(i);
                    x.greatest(i);
                    x.whole();
                    x.share();
                }
                return 0;
            });
        }
    }
}
