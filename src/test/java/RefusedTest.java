import java.util.List;
import java.util.function.ToLongFunction;

/**
 * "A call that is refused (NONE, -2, -3) changes nothing", and "of several reasons NONE comes first,
 * then -2, and so on": each reason of each call, with all that the object answers ahead of it and
 * behind it, the tape, what can be undone and what can be done again as well.
 */
public final class RefusedTest {
    private static final int NONE = KeptTree.NONE;
    private static final int MAX = Integer.MAX_VALUE;
    private static final int MIN = Integer.MIN_VALUE;
    private static final Checks CHECKS = new Checks();

    private static final String TAPE = "ifelsewhileab7";

    // Behind an EDIT: some NODES are KEPT, some are LOST, share() is of few, the tape is fed.
    private static final Run KEPT = x -> {
        Texts.load(x, "? {a=b;} bb=1;\nf(");
        Texts.edit(x, 0, 1, ";?");
        Texts.tape(x, TAPE);
    };

    // Behind undo(): one can be done again.
    private static final Run UNDONE = KEPT.and(x -> x.edit(0, 0, 0)).and(x -> {
        x.undo();
        Texts.tape(x, TAPE);
    });

    // As long as a TEXT can be but for one byte, of few TOKENS, some of them KEPT.
    private static final Run FULL = x -> {
        Texts.load(x, "?{a=b;}a=a;" + " ".repeat(286) + "f(");
        Texts.edit(x, 297, 298, "h");
        Texts.tape(x, TAPE);
    };

    private static final Run FULL_UNDONE = FULL.and(x -> x.edit(20, 21, 0)).and(x -> {
        x.undo();
        Texts.tape(x, TAPE);
    });

    // Nothing was ever done; more acts were done than are kept; all of these were undone.
    private static final Run NEW = x -> { };
    private static final Run NEW_TAPE = x -> Texts.tape(x, TAPE);
    private static final Run OFTEN = x -> {
        for (int i = 0; i < 15; i++) {
            Texts.edit(x, 0, 0, i % 2 == 0 ? ";" : "a=1;");
        }
        Texts.tape(x, TAPE);
    };
    private static final Run ALL_UNDONE = OFTEN.and(x -> {
        for (int i = 0; i < 12; i++) {
            x.undo();
        }
    });

    private RefusedTest() {
    }

    public static void main(String[] args) {
        states();
        feeds();
        loads();
        edits();
        renames();
        drops();
        wraps();
        swaps();
        copies();
        unwraps();
        mends();
        undosAndRedos();
        refusedQuestions();
        otherQuestions();
        CHECKS.end("RefusedTest");
    }

    private static void due(String what, long got, long want) {
        CHECKS.due(what, got, want);
    }

    /** The call answers so behind the run, and nothing is another than it was. */
    private static void refusedAt(String what, Run run, long want, ToLongFunction<KeptTree> call) {
        due(what, call.applyAsLong(run.made()), want);
        List<String> ahead = Look.at(run);
        List<String> behind = Look.at(run.and(x -> call.applyAsLong(x)));
        String difference = Look.difference(ahead, behind);
        due(what + " changed: " + difference, difference.isEmpty() ? 1 : 0, 1);
    }

    private static void refused(String what, long want, ToLongFunction<KeptTree> call) {
        refusedAt(what, KEPT, want, call);
        refusedAt(what + " behind undo", UNDONE, want, call);
    }

    private static void refusedFull(String what, long want, ToLongFunction<KeptTree> call) {
        refusedAt(what, FULL, want, call);
        refusedAt(what + " behind undo", FULL_UNDONE, want, call);
    }

    // the states are what they are said to be
    private static void states() {
        due("KEPT: NODES", KEPT.made().count(7) > 5 ? 1 : 0, 1);
        due("KEPT: DIRTY", KEPT.made().dirty(2) > 0 ? 1 : 0, 1);
        due("KEPT: tape", KEPT.made().count(8), 20);
        due("UNDONE: done again", UNDONE.made().count(10), 1);
        due("FULL: bytes", FULL.made().count(0), 299);
        due("FULL: NODES", FULL.made().count(7) > 5 ? 1 : 0, 1);
        due("FULL_UNDONE: done again", FULL_UNDONE.made().count(10), 1);
        due("OFTEN: to be undone", OFTEN.made().count(9), 12);
        due("ALL_UNDONE: to be undone", ALL_UNDONE.made().count(9), 0);
        due("ALL_UNDONE: done again", ALL_UNDONE.made().count(10), 12);
    }

    private static void feeds() {
        Run more = x -> {
            for (int i = 0; i < 14; i++) {
                x.feed(i, i, i, i, i);
            }
        };
        due("the tape is full", KEPT.and(more).made().count(8), 300);
        refusedAt("feed of a full tape", KEPT.and(more), NONE, x -> x.feed(1, 2, 3, 4, 5));
        refusedAt("feed of a full tape behind undo", UNDONE.and(more), NONE, x -> x.feed(1, 2, 3, 4, 5));
    }

    private static void loads() {
        refusedAt("load of an empty tape", NEW, NONE, x -> x.load(1));
        refused("load: not so many", NONE, x -> x.load(21));
        refused("load: not so many", NONE, x -> x.load(MAX));
        refused("load: below 0", NONE, x -> x.load(-1));
        refused("load: below 0", NONE, x -> x.load(MIN));
    }

    private static void edits() {
        refused("edit: a below 0", NONE, x -> x.edit(-1, 1, 1));
        refused("edit: a above b", NONE, x -> x.edit(2, 1, 1));
        refused("edit: b above all", NONE, x -> x.edit(0, x.count(0) + 1, 1));
        refused("edit: not so many", NONE, x -> x.edit(0, 1, 21));
        refused("edit: n below 0", NONE, x -> x.edit(0, 1, -1));
        refusedFull("edit: above 300", -2, x -> x.edit(0, 0, 2));
        refusedFull("edit: above 300", -2, x -> x.edit(299, 299, 20));
        refusedFull("edit: above 300", -2, x -> x.edit(0, 18, 20));
        refusedFull("edit: NONE ahead of -2", NONE, x -> x.edit(0, 300, 20));
        refusedFull("edit: NONE ahead of -2", NONE, x -> x.edit(0, 0, 21));
        due("300 is not above 300", FULL.made().edit(0, 0, 1) >= 0 ? 1 : 0, 1);
    }

    private static int name(KeptTree x) {
        return x.find(12, 0);
    }

    private static void renames() {
        refused("rename: no NAME", NONE, x -> x.rename(0, 2));
        refused("rename: no NODE", NONE, x -> x.rename(MAX, 2));
        refused("rename: not so many", NONE, x -> x.rename(name(x), 21));
        refused("rename: n below 1", NONE, x -> x.rename(name(x), 0));
        refused("rename: others", NONE, x -> x.rename(name(x), 14));
        refused("rename: if", -3, x -> x.rename(name(x), 2));
        Run bb = KEPT.and(x -> x.edit(0, 0, 0)).and(x -> Texts.tape(x, "bb"));
        refusedAt("rename: are so already", bb, -3, x -> x.rename(x.find(12, 2), 2));
        refusedAt("rename: an empty tape", KEPT.and(x -> x.edit(0, 0, 0)), NONE, x -> x.rename(name(x), 1));
        refusedFull("rename: above 300", -2, x -> x.rename(name(x), 12));
        refusedFull("rename: -2 ahead of -3", -2, x -> x.rename(name(x), 2));
        refusedFull("rename: NONE ahead of -2, -3", NONE, x -> x.rename(0, 2));
        refusedFull("rename: NONE ahead of -2", NONE, x -> x.rename(name(x), 20));
    }

    private static void drops() {
        refused("drop: FILE", NONE, x -> x.drop(0));
        refused("drop: REPEAT", NONE, x -> x.drop(1));
        refused("drop: NAME", NONE, x -> x.drop(name(x)));
        refused("drop: MISSING", NONE, x -> x.drop(x.find(17, 0)));
        refused("drop: LIST", NONE, x -> x.drop(x.find(4, 0)));
        refused("drop: no NODE", NONE, x -> x.drop(-1));
        refused("drop: no NODE", NONE, x -> x.drop(x.count(2)));
        refusedAt("drop: of nothing", NEW_TAPE, NONE, x -> x.drop(0));
    }

    private static void wraps() {
        refused("wrap: no ITEM", NONE, x -> x.wrap(1));
        refused("wrap: no NODE", NONE, x -> x.wrap(-1));
        refusedFull("wrap: above 300", -2, x -> x.wrap(x.find(2, 0)));
        refusedFull("wrap: above 300", -2, x -> x.wrap(x.find(9, 0)));
        refusedFull("wrap: NONE ahead of -2", NONE, x -> x.wrap(0));
    }

    private static void swaps() {
        refused("swap: no ITEM", NONE, x -> x.swap(0, x.find(5, 0)));
        refused("swap: no ITEM", NONE, x -> x.swap(x.find(5, 0), x.find(5, 0) + 1));
        refused("swap: one and the same", NONE, x -> x.swap(x.find(5, 0), x.find(5, 0)));
        refused("swap: within", -2, x -> x.swap(x.find(5, 0), x.find(2, 0)));
        refused("swap: within", -2, x -> x.swap(x.find(2, 0), x.find(5, 0)));
        refused("swap: NONE ahead of -2", NONE, x -> x.swap(x.find(5, 0), name(x)));
    }

    private static void copies() {
        refused("copy: no ITEM", NONE, x -> x.copy(0, x.find(5, 0)));
        refused("copy: no ITEM", NONE, x -> x.copy(x.find(5, 0), 1));
        refused("copy: no NODE", NONE, x -> x.copy(MIN, x.find(5, 0)));
        refusedFull("copy: above 300", -2, x -> x.copy(x.find(2, 0), x.find(2, 0)));
        refusedFull("copy: NONE ahead of -2", NONE, x -> x.copy(x.find(2, 0), 0));
        KeptTree one = FULL.made();
        due("300 is not above 300", one.copy(one.find(9, 0), one.find(9, 0)) >= 0 ? 1 : 0, 1);
    }

    private static void unwraps() {
        refused("unwrap: no BLOCK", NONE, x -> x.unwrap(x.find(2, 0)));
        refused("unwrap: no BLOCK", NONE, x -> x.unwrap(0));
        refused("unwrap: no NODE", NONE, x -> x.unwrap(MAX));
    }

    private static void mends() {
        refusedAt("mend: of nothing", NEW_TAPE, NONE, x -> x.mend());
        Run well = x -> {
            Texts.load(x, "a=1;;");
            Texts.edit(x, 4, 5, "");
            Texts.edit(x, 2, 2, "7+");
            Texts.tape(x, TAPE);
        };
        refusedAt("mend: nothing is wrong", well, NONE, x -> x.mend());
        refusedAt("mend: nothing is wrong behind undo", well.and(x -> x.undo()), NONE, x -> x.mend());
        Run open = x -> {
            Texts.load(x, ";a=;if");
            Texts.edit(x, 0, 1, ";;");
            Texts.tape(x, TAPE);
        };
        refusedAt("mend: MISSING of no sign", open, NONE, x -> x.mend());
        Run full = FULL.and(x -> x.edit(0, 1, 1)).and(x -> Texts.tape(x, TAPE));
        due("mend to just 300", full.made().mend(), 3);
        full = FULL.and(x -> x.drop(x.find(9, 0))).and(x -> x.edit(20, 20, 1)).and(x -> x.undo())
                .and(x -> Texts.edit(x, 20, 20, "  ")).and(x -> Texts.tape(x, TAPE));
        due("no byte has room", full.made().count(0), 300);
        refusedAt("mend: above 300", full, -2, x -> x.mend());
        Run again = full.and(x -> x.edit(0, 0, 0)).and(x -> x.undo()).and(x -> Texts.tape(x, TAPE));
        refusedAt("mend: above 300 behind undo", again, -2, x -> x.mend());
    }

    private static void undosAndRedos() {
        for (Run run : List.of(NEW, NEW_TAPE, NEW_TAPE.and(x -> x.load(3)).and(x -> x.undo()), ALL_UNDONE)) {
            refusedAt("undo of nothing", run, NONE, x -> x.undo());
        }
        for (Run run : List.of(NEW, NEW_TAPE, KEPT, OFTEN, FULL, UNDONE.and(x -> x.redo()))) {
            refusedAt("redo of nothing", run, NONE, x -> x.redo());
        }
    }

    private static long noNodes(KeptTree x, int node) {
        return x.node(node, 0) & x.child(node, 0) & x.common(node, 0) & x.common(0, node) & x.alike(node, 0)
                & x.alike(0, node) & x.twins(node) & x.uses(node) & x.told(node) & x.far(node, 0) & x.far(0, node);
    }

    private static long noBytes(KeptTree x, int i) {
        return x.octet(i) & x.tokenAt(i) & x.match(i) & x.cover(i, MAX) & x.line(i) & x.column(i) & x.begin(i)
                & x.begun(i) & x.level(i) & x.blanks(i) & x.token(i, 0);
    }

    private static long noWhats(KeptTree x, int what) {
        return x.count(what) & x.token(0, what) & x.node(0, what) & x.find(what, 0) & x.longest(what, 0)
                & x.longest(0, what) & x.wrong(0, what) & x.dirty(what) & x.lost(what) & x.greatest(what) & x.item(0, what);
    }

    private static void refusedQuestions() {
        for (Run run : List.of(NEW, KEPT, UNDONE, ALL_UNDONE)) {
            for (int no : new int[] {-1, MIN, MAX}) {
                refusedAt("no such NODE " + no, run, NONE, x -> noNodes(x, no));
                refusedAt("no such byte " + no, run, NONE, x -> noBytes(x, no));
                refusedAt("no such what " + no, run, NONE, x -> noWhats(x, no));
                refusedAt("no NODE's value " + no, run, Long.MIN_VALUE, x -> x.value(no));
            }
            refusedAt("k below NONE", run, NONE, x -> x.names(-2) & x.find(0, -2) & x.item(-2, 0) & x.child(0, -2));
            refusedAt("not so many", run, -2, x -> x.names(MAX) & x.find(0, MAX) & x.item(MAX, 0) & x.child(0, MAX));
            refusedAt("no MARK, no NAME", run, NONE, x -> x.match(1) & x.uses(0) & x.told(0));
        }
        refused("wrong: not so many", -2, x -> x.wrong(MAX, 0));
        refused("in no TOKEN", -2, x -> x.tokenAt(2));
        refused("of no such sort", -2, x -> x.longest(7, 0));
        refused("no MARK that goes with it", NONE, x -> x.match(0));
        refusedAt("none is KEPT", UNDONE, -2, x -> x.greatest(0) & x.greatest(1));
        refusedAt("none is DIRTY", KEPT.and(x -> x.edit(0, 0, 0)), -2, x -> x.dirty(0) & x.dirty(1));
        refusedAt("there were no EDITS", NEW_TAPE.and(x -> x.load(5)), -2, x -> x.share());
    }

    private static long askAll(KeptTree x, int i) {
        return x.count(i) + x.octet(i) + x.token(i, i) + x.tokenAt(i) + x.node(i, i) + x.child(i, 0) + x.find(i, 0)
                + x.cover(i, i + 1) + x.common(i, 1) + x.match(i) + x.line(i) + x.column(i) + x.begin(i) + x.begun(i)
                + x.level(i) + x.blanks(i) + x.alike(i, 1) + x.twins(i) + x.longest(i, 1) + x.wrong(i, 1) + x.dirty(i)
                + x.lost(i) + x.greatest(i) + x.whole() + x.share() + x.names(i) + x.uses(i) + x.value(i) + x.told(i)
                + x.item(i, 1) + x.far(i, 1);
    }

    // a question that is answered changes nothing either
    private static void otherQuestions() {
        for (Run run : List.of(NEW, NEW_TAPE, KEPT, UNDONE, FULL, ALL_UNDONE)) {
            refusedAt("all that can be asked", run, 0, x -> {
                for (int i = 0; i < 7; i++) {
                    askAll(x, i);
                }
                return 0;
            });
        }
    }
}
