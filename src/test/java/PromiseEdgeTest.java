import java.util.function.IntToLongFunction;

/** Promises 1 to 44: each sentence that names what is too small, too large, empty, full, or refused. */
public final class PromiseEdgeTest {
    private static final int NONE = KeptTree.NONE;
    private static final int MAX = Integer.MAX_VALUE;
    private static final int MIN = Integer.MIN_VALUE;
    private static final Checks CHECKS = new Checks();

    // 0 FILE 1 REPEAT 2 SET(3 NAME 4 = 5 SUM(6 NUMBER 7 + 8 PRODUCT(9 NUMBER 10 * 11 NAME)) 12 ;)
    // 13 CALL(14 NAME 15 ( 16 LIST(17 NAME 18 , 19 NUMBER) 20 ) 21 ;)
    private static final String TWO = "a=1+2*b;f(b,3);";

    private PromiseEdgeTest() {
    }

    public static void main(String[] args) {
        newObjectIsEmpty();
        newObjectRefuses();
        feedIsFull();
        feedHighestFirst();
        loadTooManyOrFew();
        loadEmptiesTheTape();
        editNoSuchBytes();
        editTape();
        editTooLong();
        renameNone();
        renameTooLongOrSo();
        renameFromFirstToLast();
        dropEdges();
        wrapEdges();
        swapEdges();
        copyEdges();
        unwrapEdges();
        mendEdges();
        mendLikePlaces();
        undoRedoEmpty();
        tapeStaysWhereItIsNotTold();
        countOthers();
        octetEdges();
        tokenEdges();
        nodeEdges();
        childEdges();
        findEdges();
        coverEdges();
        commonAndFarEdges();
        matchEdges();
        matchMissing();
        lineAndColumnEdges();
        lineRowsEdges();
        begunAndLevelEdges();
        alikeEdges();
        longestEdges();
        wrongEdges();
        dirtyEdges();
        lostEdges();
        greatestAndWholeEdges();
        shareEdges();
        namesAndUsesEdges();
        valueGoesRound();
        valueEdges();
        toldEdges();
        itemEdges();
        CHECKS.end("PromiseEdgeTest");
    }

    private static void due(String what, long got, long want) {
        CHECKS.due(what, got, want);
    }

    private static void dueText(String what, KeptTree x, String want) {
        String got = Texts.text(x);
        due(what + " left [" + got + "] where [" + want + "] is due", got.equals(want) ? 1 : 0, 1);
    }

    /** The same answer is due for all these arguments. */
    private static void dueEach(String what, long want, IntToLongFunction call, int... args) {
        for (int arg : args) {
            due(what + " by " + arg, call.applyAsLong(arg), want);
        }
    }

    // Promise 1: "An empty TEXT, FILE alone."
    private static void newObjectIsEmpty() {
        KeptTree x = new KeptTree();
        int[] counts = {0, 0, 1, 0, 0, 1, 0, 0, 0, 0, 0, 1, NONE};
        for (int what = 0; what < counts.length; what++) {
            due("count(" + what + ")", x.count(what), counts[what]);
        }
        int[] file = {0, 0, 0, -2, 0, -2, -2, 1, 0, -2, 0, 1, NONE};
        for (int what = 0; what < file.length; what++) {
            due("node(0, " + what + ")", x.node(0, what), file[what]);
        }
        for (int sort = 0; sort < 18; sort++) {
            due("lost(" + sort + ")", x.lost(sort), 0);
            due("find(" + sort + ", NONE)", x.find(sort, NONE), sort == 0 ? 1 : 0);
            due("find(" + sort + ", 0)", x.find(sort, 0), sort == 0 ? 0 : -2);
            due("longest(" + sort + ", 0)", x.longest(sort, 0), sort == 0 ? 0 : -2);
            due("longest(" + sort + ", 1)", x.longest(sort, 1), sort == 0 ? 0 : -2);
        }
        long[] got = {x.common(0, 0), x.line(0), x.column(0), x.begin(0), x.begun(0), x.level(0), x.blanks(0),
            x.alike(0, 0), x.twins(0), x.wrong(0, 0), x.dirty(0), x.dirty(1), x.dirty(2), x.dirty(3), x.greatest(0),
            x.greatest(1), x.whole(), x.share(), x.names(NONE), x.names(0), x.item(NONE, 0), x.item(0, 0), x.far(0, 0)};
        long[] want = {0, 0, 0, 0, 1, 0, 0, 1, 1, -2, -2, -2, 0, 0, -2, -2, 0, -2, 0, -2, 0, -2, 0};
        for (int i = 0; i < want.length; i++) {
            due("question " + i + " of a new object", got[i], want[i]);
        }
        due("value(0)", x.value(0), Long.MIN_VALUE);
        due("child(0, 0)", x.child(0, 0), -2);
    }

    private static void newObjectRefuses() {
        KeptTree x = new KeptTree();
        long[] none = {x.octet(0), x.token(0, 0), x.tokenAt(0), x.node(1, 0), x.child(1, 0), x.cover(0, 0), x.cover(0, 1),
            x.common(0, 1), x.match(0), x.line(1), x.column(1), x.begin(1), x.begun(1), x.level(1), x.blanks(1),
            x.alike(0, 1), x.twins(1), x.uses(0), x.told(0), x.far(1, 0), x.load(1), x.edit(0, 1, 0), x.edit(0, 0, 1),
            x.rename(0, 0), x.rename(0, 1), x.drop(0), x.wrap(0), x.swap(0, 0), x.copy(0, 0), x.unwrap(0), x.mend(),
            x.undo(), x.redo()};
        for (int i = 0; i < none.length; i++) {
            due("question " + i + " of a new object", none[i], NONE);
        }
        due("none of them is an ACT", x.count(9), 0);
        due("load of nothing", x.load(0), 0);
        due("edit of nothing", x.edit(0, 0, 0), 0);
        due("two ACTS", x.count(9), 2);
    }

    // Promise 2: "NONE if that would be more than 300"
    private static void feedIsFull() {
        KeptTree x = new KeptTree();
        for (int many = 20; many <= 300; many += 20) {
            due("feed", x.feed(many, 0, 0, 0, many), many);
            due("tape", x.count(8), many);
        }
        due("feed of a full tape", x.feed(7, 7, 7, 7, 7), NONE);
        due("feed of a full tape", x.feed(-1, -1, -1, -1, -1), NONE);
        due("it stays full", x.count(8), 300);
        due("load of all", x.load(300) >= 0 ? 1 : 0, 1);
        for (int i = 0; i < 300; i++) {
            int want = i % 20 == 3 || i % 20 == 19 ? 20 * (i / 20 + 1) & 255 : 0;
            want = 20 * (i / 20 + 1) > 255 && (i % 20 == 2 || i % 20 == 18) ? 1 : want;
            due("byte " + i + " of the tape", x.octet(i), want);
        }
        due("empty then", x.feed(0, 0, 0, 0, 0), 20);
    }

    // Promise 2: "the highest of each int first"
    private static void feedHighestFirst() {
        KeptTree x = new KeptTree();
        due("feed", x.feed(0x80FF7F00, -1, MIN, MAX, 0x01020304), 20);
        x.load(20);
        int[] bytes = {128, 255, 127, 0, 255, 255, 255, 255, 128, 0, 0, 0, 127, 255, 255, 255, 1, 2, 3, 4};
        for (int i = 0; i < 20; i++) {
            due("octet(" + i + ")", x.octet(i), bytes[i]);
        }
        KeptTree y = new KeptTree();
        y.feed(0x61616161, 0x61616161, 0x61616161, 0x61616161, 0x61616161);
        y.feed(0x62626262, 0x62626262, 0x62626262, 0x62626262, 0x62626262);
        y.load(21);
        due("behind the tape, not ahead", y.octet(19), 'a');
        due("behind the tape, not ahead", y.octet(20), 'b');
    }

    // Promise 3: "NONE: it has not so many, n is below 0 (the tape stays)"
    private static void loadTooManyOrFew() {
        KeptTree x = new KeptTree();
        dueEach("load of an empty tape", NONE, x::load, 1, 2, 300, 301, MAX, -1, -2, MIN);
        due("load(0) of an empty tape", x.load(0), 0);
        Texts.tape(x, ";".repeat(20));
        dueEach("load of 20", NONE, x::load, 21, 22, 300, MAX, -1, MIN);
        due("the tape stays", x.count(8), 20);
        due("no ACT more", x.count(9), 1);
        due("load of just 20", x.load(20), 20);
        Texts.tape(x, "?".repeat(300));
        dueEach("load of 300", NONE, x::load, 301, MAX, -1, MIN);
        due("load of just 300", x.load(300), 300);
    }

    // Promise 3: "the first n bytes of the tape (empty then)"
    private static void loadEmptiesTheTape() {
        KeptTree x = new KeptTree();
        Texts.tape(x, ";?;?;?");
        due("load(0) of 20", x.load(0), 0);
        due("the tape is empty", x.count(8), 0);
        due("no TEXT", x.count(0), 0);
        Texts.tape(x, ";?;?;?");
        due("load(1) of 20", x.load(1), 1);
        due("the tape is empty", x.count(8), 0);
        dueText("load(1)", x, ";");
        due("load behind it", x.load(1), NONE);
        due("how many TOKENS: of blanks none", Texts.load(x, "   "), 0);
        due("how many TOKENS", Texts.load(x, "ab 12 '' ; '"), 5);
    }

    // Promise 4: "NONE: no such bytes (a 0 to b, b up to how many there are)"
    private static void editNoSuchBytes() {
        KeptTree x = Texts.of("a;b");
        dueEach("a below 0", NONE, a -> x.edit(a, 2, 0), -1, -2, MIN);
        dueEach("a above b", NONE, a -> x.edit(a, 1, 0), 2, 3, 4, MAX);
        dueEach("b above all", NONE, b -> x.edit(1, b, 0), 4, 5, 301, MAX);
        dueEach("b below a", NONE, b -> x.edit(1, b, 0), 0, -1, MIN);
        dueEach("both behind the end", NONE, a -> x.edit(a, a, 0), 4, MAX, -1, MIN);
        due("no ACT", x.count(9), 1);
        due("at the end", x.edit(3, 3, 0) >= 0 ? 1 : 0, 1);
        due("at the head", x.edit(0, 0, 0) >= 0 ? 1 : 0, 1);
        due("the last byte", x.edit(2, 3, 0) >= 0 ? 1 : 0, 1);
        dueText("edit", x, "a;");
        due("all bytes", x.edit(0, 2, 0), 0);
        dueText("edit", x, "");
        due("of nothing", x.edit(0, 0, 0), 0);
        due("of nothing one", x.edit(0, 1, 0), NONE);
    }

    // Promise 4: "the first n of the tape (empty then)", "the tape has not so many (it stays)"
    private static void editTape() {
        KeptTree x = Texts.of("a;b");
        dueEach("an empty tape has not so many", NONE, n -> x.edit(0, 0, n), 1, 20, MAX, -1, MIN);
        Texts.tape(x, "xyz");
        dueEach("a tape of 20 has not so many", NONE, n -> x.edit(0, 0, n), 21, 22, MAX, -1, -2, MIN);
        due("it stays", x.count(8), 20);
        due("n 0 empties it", x.edit(0, 0, 0) >= 0 ? 1 : 0, 1);
        due("empty", x.count(8), 0);
        dueText("nothing came", x, "a;b");
        Texts.tape(x, "xyz");
        due("n 1 of 20", x.edit(3, 3, 1) >= 0 ? 1 : 0, 1);
        due("empty", x.count(8), 0);
        dueText("one came", x, "a;bx");
        Texts.tape(x, "0123456789abcdefghij");
        due("all 20", x.edit(0, 4, 20), 0);
        dueText("all came", x, "0123456789abcdefghij");
    }

    // Promise 4: "-2: the TEXT would be above 300 (the tape stays)"
    private static void editTooLong() {
        KeptTree x = Texts.of("?".repeat(290));
        Texts.tape(x, "abcdefghijklm");
        due("301", x.edit(0, 0, 11), -2);
        due("301", x.edit(0, 1, 12), -2);
        due("301 at the end", x.edit(290, 290, 11), -2);
        due("the tape stays", x.count(8), 20);
        due("the TEXT, too", x.count(0), 290);
        due("NONE first: no such bytes", x.edit(-1, 0, 11), NONE);
        due("NONE first: no such bytes", x.edit(0, 291, 20), NONE);
        due("NONE first: not so many", x.edit(0, 0, 21), NONE);
        due("300", x.edit(0, 0, 10) >= 0 ? 1 : 0, 1);
        due("300", x.count(0), 300);
        due("empty", x.count(8), 0);
        due("the last that came", x.octet(9), 'j');
    }

    // Promise 5: "NONE: no NAME, the tape has not so many, or others"
    private static void renameNone() {
        KeptTree x = Texts.of(TWO + "c");
        due("an empty tape", x.rename(4, 1), NONE);
        Texts.tape(x, "xy`");
        int[] names = {4, 12, 15, 18};
        for (int node = -1; node <= x.count(2); node++) {
            boolean name = node == names[0] || node == names[1] || node == names[2] || node == names[3];
            if (!name) {
                due("no NAME", x.rename(node, 1), NONE);
            }
        }
        dueEach("no NODE", NONE, node -> x.rename(node, 1), MAX, MIN);
        dueEach("n below 1, above the tape, others", NONE, n -> x.rename(4, n), 0, -1, MIN, 21, 300, MAX, 3, 4, 20);
        due("the tape stays", x.count(8), 20);
        due("no ACT", x.count(9), 1);
        due("two letters", x.rename(4, 2), 1);
        due("empty then", x.count(8), 0);
        for (String other : new String[] {"`", "{", "A", "0", " ", "\n", "a`", "a{", "Za", "a0", "0a", "\u00e1", "_"}) {
            KeptTree y = Texts.of("a=1;");
            due("others: " + other, Texts.rename(y, 2, other), NONE);
            due("the tape stays", y.count(8), 20);
        }
        due("a", Texts.rename(Texts.of("b=1;"), 2, "a"), 1);
        due("z", Texts.rename(Texts.of("b=1;"), 2, "z"), 1);
    }

    // Promise 5: "-2: the TEXT would be above 300; -3: they would be if, else, while, or are so already"
    private static void renameTooLongOrSo() {
        for (String word : new String[] {"if", "else", "while"}) {
            KeptTree x = Texts.of("abcde=1;");
            due("to " + word, Texts.rename(x, 2, word), -3);
            due("the tape stays", x.count(8), 20);
            dueText("refused", x, "abcde=1;");
            KeptTree y = Texts.of("a=a;" + " ".repeat(295));
            due("-2 ahead of -3: " + word, Texts.rename(y, 2, word), -2);
            due("the tape stays", y.count(8), 20);
            KeptTree z = Texts.of("a=a;" + " ".repeat(295));
            due("NONE ahead of -2, -3: " + word, Texts.rename(z, 3, word), NONE);
            KeptTree w = Texts.of("abcde=1;");
            due("all but the last sign of " + word, Texts.rename(w, 2, word.substring(0, word.length() - 1)), 1);
            KeptTree v = Texts.of("abcde=1;");
            due("more than " + word, Texts.rename(v, 2, word + "x"), 1);
        }
        KeptTree x = Texts.of("ab=ba;");
        due("are so already", Texts.rename(x, 2, "ab"), -3);
        due("the tape stays", x.count(8), 20);
        due("but one sign", x.rename(2, 1), 1);
        dueText("but one sign", x, "a=ba;");
        due("as another NAME is", Texts.rename(x, 2, "ba"), 1);
        dueText("as another NAME is", x, "ba=ba;");
        due("both now", Texts.rename(x, 4, "c"), 2);
        dueText("both now", x, "c=c;");
    }

    // Promise 5: "all NAMES with the same bytes", "an EDIT from the first one's first byte to the last one's last"
    private static void renameFromFirstToLast() {
        KeptTree x = Texts.of(";a=b;b=a; a c=1;");
        // NAMES a b b a c; the last a is an ERROR
        due("how many", Texts.rename(x, x.names(0), "xy"), 2);
        dueText("rename", x, ";xy=b;b=xy; a c=1;");
        due("DIRTY from", x.dirty(0), 1);
        due("DIRTY to", x.dirty(1), 7);
        due("DIRTY", x.dirty(3), 7);
        due("one NAME alone", Texts.rename(x, x.names(2), "z"), 1);
        dueText("rename", x, ";xy=b;b=xy; a z=1;");
        due("DIRTY alone", x.dirty(2), 1);
        KeptTree y = Texts.of("ab=abc+ab+a;");
        due("not those that only begin so", Texts.rename(y, 2, "q"), 2);
        dueText("rename", y, "q=abc+q+a;");
        KeptTree first = Texts.of("a=1;");
        due("the first TOKEN of all", Texts.rename(first, 2, "b"), 1);
        due("it is DIRTY", first.token(0, 4), 0);
        due("it alone", first.dirty(2), 1);
        KeptTree last = Texts.of("a=b");
        due("the last TOKEN of all", Texts.rename(last, 4, "c"), 1);
        dueText("rename", last, "a=c");
        due("it is DIRTY", last.token(2, 4), 0);
        due("it alone", last.dirty(2), 1);
        KeptTree z = Texts.of("a=a" + "+a".repeat(99) + ";");
        due("101 of them", Texts.rename(z, 2, "b"), 101);
        due("as many bytes", z.count(0), 202);
    }

    // Promise 6: "NONE: no ITEM"
    private static void dropEdges() {
        KeptTree x = Texts.of(TWO);
        dueEach("no ITEM", NONE, x::drop, 0, 1, 3, 4, 5, 8, 16, 20, 21, 22, 23, -1, MAX, MIN);
        due("no ACT", x.count(9), 1);
        due("all bytes", x.drop(13), 7);
        dueText("drop", x, "a=1+2*b;");
        due("the last one", x.drop(1), 8);
        dueText("drop", x, "");
        due("none is left", x.drop(1), NONE);
        KeptTree y = Texts.of("f(a #\n ; ");
        due("from its first TOKEN to its last, all between", y.drop(1), 8);
        dueText("drop", y, " ");
        KeptTree z = Texts.of("'x y' 7");
        due("an ERROR of 5 bytes", z.drop(2), 5);
        KeptTree w = Texts.of("{".repeat(300));
        due("all 300", w.drop(1), 300);
        due("nothing is left", w.count(0), 0);
        due("nothing is DIRTY", w.dirty(2), 0);
    }

    // Promise 7
    private static void wrapEdges() {
        KeptTree x = Texts.of(TWO);
        dueEach("no ITEM", NONE, x::wrap, 0, 1, 3, 5, 16, 21, 22, -1, MAX, MIN);
        due("no ACT", x.count(9), 1);
        // KEPT: the CALL with its nine
        due("all of it is of the EDIT", x.wrap(2), 9);
        dueText("wrap", x, "{a=1+2*b;}f(b,3);");
        due("DIRTY from", x.dirty(0), 0);
        due("DIRTY to", x.dirty(1), 9);
        KeptTree y = Texts.of(" ; ");
        due("wrap", y.wrap(1), 0);
        dueText("blanks stay outside", y, " {;} ");
        KeptTree z = Texts.of("if a b");
        due("a BODY", z.wrap(z.find(9, 0)), 3 - 1);
        dueText("a BODY", z, "if a {b}");
        KeptTree full = Texts.of("?".repeat(299));
        due("NONE first", full.wrap(0), NONE);
        due("then -2", full.wrap(full.find(9, 0)), -2);
    }

    // Promise 8: "NONE: no ITEMS, one and the same; -2: one is within the other one"
    private static void swapEdges() {
        KeptTree x = Texts.of("{;}?");
        // 1 REPEAT 2 BLOCK(3 { 4 EMPTY 5 }) 6 ERROR
        dueEach("one is no ITEM", NONE, one -> x.swap(one, 6), 0, 1, 3, 5, 7, -1, MAX, MIN);
        dueEach("the other is no ITEM", NONE, other -> x.swap(6, other), 0, 1, 3, 5, 7, -1, MAX, MIN);
        dueEach("one and the same", NONE, one -> x.swap(one, one), 2, 4, 6, 0, -1);
        due("within", x.swap(2, 4), -2);
        due("within", x.swap(4, 2), -2);
        due("no ACT", x.count(9), 1);
        due("NONE first", x.swap(2, 3), NONE);
        due("one in a BLOCK, one outside", x.swap(6, 4), 1);
        dueText("swap", x, "{?};");
        due("by places, whichever is told first", x.swap(2, 6), 0);
        dueText("swap", x, ";{?}");
        KeptTree y = Texts.of("; ab=1;");
        due("of other lengths", y.swap(2, 3), 0);
        dueText("swap", y, "ab=1; ;");
        KeptTree z = Texts.of("?;;?");
        due("side by side: what is outside is KEPT", z.swap(z.find(8, 0), z.find(8, 1)), 2);
        due("both are DIRTY", z.dirty(2), 2);
        KeptTree deep = Texts.of("{{{{;}}}}");
        due("within, four deep", deep.swap(deep.find(5, 0), deep.find(8, 0)), -2);
    }

    // Promise 9: "(another one or itself; an EDIT of no bytes at that one's first)"
    private static void copyEdges() {
        KeptTree x = Texts.of("{;}?");
        dueEach("one is no ITEM", NONE, one -> x.copy(one, 6), 0, 1, 3, 5, 7, -1, MAX, MIN);
        dueEach("the other is no ITEM", NONE, other -> x.copy(6, other), 0, 1, 3, 5, 7, -1, MAX, MIN);
        due("no ACT", x.count(9), 1);
        // KEPT: the BLOCK with its three, the ? that was there
        due("itself", x.copy(6, 6), 5);
        dueText("copy", x, "{;}??");
        due("the first that came is DIRTY", x.dirty(0), 3);
        due("alone", x.dirty(2), 1);
        due("within itself", x.copy(x.find(5, 0), x.find(8, 0)), 3 + 2);
        dueText("copy", x, "{{;};}??");
        due("what is around it", x.copy(x.find(8, 0), x.find(5, 0)) >= 0 ? 1 : 0, 1);
        dueText("copy", x, ";{{;};}??");
        KeptTree word = Texts.of("a b");
        // a ab : a read the byte behind it, which stays; ab is a new one
        due("a WORD that grows on", word.copy(2, 3), 1);
        dueText("copy", word, "a ab");
        due("ab is DIRTY", word.dirty(0), 1);
        KeptTree full = Texts.of("?".repeat(300));
        due("NONE first", full.copy(0, 1), NONE);
        due("then -2", full.copy(full.find(9, 0), full.find(9, 0)), -2);
    }

    // Promise 10: "(} if it is there; an EDIT of all its bytes)", "NONE: no BLOCK"
    private static void unwrapEdges() {
        KeptTree x = Texts.of("{;}?");
        dueEach("no BLOCK", NONE, x::unwrap, 0, 1, 3, 4, 5, 6, 7, -1, MAX, MIN);
        due("no ACT", x.count(9), 1);
        due("unwrap", x.unwrap(2), 1);
        dueText("unwrap", x, ";?");
        due("all its bytes are of the EDIT", x.dirty(0), 0);
        due("? is not", x.dirty(1), 0);
        KeptTree empty = Texts.of("{}");
        due("of nothing", empty.unwrap(1), 0);
        dueText("of nothing", empty, "");
        KeptTree open = Texts.of("{");
        due("} is MISSING", open.unwrap(1), 0);
        dueText("} is MISSING", open, "");
        open = Texts.of("{ a=1; ");
        due("} is MISSING", open.unwrap(1), 0);
        dueText("} is MISSING", open, " a=1; ");
        open = Texts.of("{{}");
        due("} is the inner one's", open.unwrap(1), 0);
        dueText("} is the inner one's", open, "{}");
        open = Texts.of("{a=(}");
        due("} is its own", open.unwrap(1), 0);
        dueText("} is its own", open, "a=(");
    }

    // Promise 11: "NONE: there are none"
    private static void mendEdges() {
        for (String well : new String[] {"", "  ", ";", TWO, "a=;", "if", "while", "f(,);", "a=+;", "if else", "a=();"}) {
            KeptTree x = Texts.of(well);
            due("nothing to mend in [" + well + "]", x.mend(), NONE);
            due("no ACT", x.count(9), 1);
        }
        String[] ill = {"a=1", "f(", "{", "?", "a=(1;", "f(1;", "{a", "if a b", "'x", "a=", "f()", "{{", "x=(", "f((1"};
        int[] many = {1, 2, 1, 1, 1, 1, 2, 1, 2, 1, 1, 2, 2, 3};
        String[] mended = {"a=1;", "f();", "{}", "", "a=(1);", "f(1);", "{}", "if a ", "", "a=;", "f();", "{{}}", "x=();",
            "f((1));"};
        for (int i = 0; i < ill.length; i++) {
            KeptTree x = Texts.of(ill[i]);
            due("mend of [" + ill[i] + "]", x.mend(), many[i]);
            dueText("mend of [" + ill[i] + "]", x, mended[i]);
        }
    }

    // Promise 11: "of like places in the order of NODES", "from the first such place to the end of the last one"
    private static void mendLikePlaces() {
        KeptTree x = Texts.of("{f((a");
        due("of like places four", x.mend(), 4);
        dueText("in the order of NODES", x, "{f((a));}");
        due("a read on, the rest came", x.dirty(0), 4);
        KeptTree y = Texts.of("; a=1 ?;");
        due("a sign and an ERROR", y.mend(), 2);
        dueText("mend", y, "; a=1; ;");
        // KEPT: ; a = ahead of it; ; behind it
        due("DIRTY from", y.dirty(0), 3);
        due("DIRTY to", y.dirty(1), 4);
        due("its TOKENS", y.count(6), 4);
        KeptTree z = Texts.of("a=1?");
        due("at one place a sign comes and an ERROR goes", z.mend(), 2);
        dueText("mend", z, "a=1;");
        KeptTree w = Texts.of("; ab ;");
        due("an ERROR of two bytes", w.mend(), 1);
        dueText("mend", w, ";  ;");
        due("both ; are KEPT", w.count(6), 2);
        KeptTree v = Texts.of("a=1 # c\n");
        due("ahead of what is no TOKEN", v.mend(), 1);
        dueText("mend", v, "a=1; # c\n");
    }

    // Promises 12, 13: "NONE: none can"
    private static void undoRedoEmpty() {
        KeptTree x = new KeptTree();
        due("undo of nothing", x.undo(), NONE);
        due("redo of nothing", x.redo(), NONE);
        x.load(0);
        due("redo of nothing", x.redo(), NONE);
        due("undo of one", x.undo(), 0);
        due("undo of none", x.undo(), NONE);
        due("redo of one", x.redo(), 0);
        due("redo of none", x.redo(), NONE);
        due("undo again", x.undo(), 0);
        due("undo of none", x.undo(), NONE);
        due("it can be done again still", x.count(10), 1);
        KeptTree y = Texts.of("a");
        y.edit(0, 1, 0);
        due("the latest first", y.undo(), 1);
        dueText("undo", y, "a");
        due("then the one ahead", y.undo(), 0);
        dueText("undo", y, "");
        due("the earliest first", y.redo(), 1);
        dueText("redo", y, "a");
        due("then the one behind", y.redo(), 0);
        dueText("redo", y, "");
    }

    // where nothing of the tape is told it stays
    private static void tapeStaysWhereItIsNotTold() {
        KeptTree x = Texts.of("{a=1;}b=2;??");
        Texts.tape(x, "xyz");
        due("drop", x.drop(x.find(9, 0)), 1);
        due("the tape", x.count(8), 20);
        x.wrap(x.find(2, 0));
        due("the tape", x.count(8), 20);
        x.swap(x.find(5, 0), x.find(9, 0));
        due("the tape", x.count(8), 20);
        x.copy(x.find(9, 0), x.find(5, 0));
        due("the tape", x.count(8), 20);
        x.unwrap(x.find(5, 0));
        due("the tape", x.count(8), 20);
        x.mend();
        due("the tape", x.count(8), 20);
        due("six ACTS", x.count(9), 7);
        x.undo();
        due("the tape", x.count(8), 20);
        x.redo();
        due("the tape", x.count(8), 20);
        x.load(3);
        dueText("its bytes", x, "xyz");
        x.undo();
        due("what was taken does not come back", x.count(8), 0);
    }

    // Promise 14: "NONE for others"
    private static void countOthers() {
        KeptTree x = Texts.of(TWO);
        dueEach("count", NONE, x::count, -1, -2, 12, 13, 100, MAX, MIN);
        due("FILE by itself", new KeptTree().count(5), 1);
        due("one ITEM", Texts.of(";").count(5), 2);
        due("two", Texts.of(";;").count(5), 3);
        due("three", Texts.of(";;;").count(5), 4);
        due("300 ITEMS", Texts.of(";".repeat(300)).count(5), 1 + 9 + 1);
        due("a MISSING counts", Texts.of("f(").count(5), 4);
        due("the deepest SUM", Texts.of("a=" + "+".repeat(298)).count(5), 2 + 298 + 1);
        due("ERRORS", Texts.of("?".repeat(300)).count(3), 300);
        due("no ERROR", x.count(3), 0);
        due("MISSING", Texts.of("a=" + "+".repeat(298)).count(4), 300);
        due("none is MISSING", x.count(4), 0);
    }

    // Promise 15: "NONE: there is none such"
    private static void octetEdges() {
        KeptTree x = Texts.of("\u00ff;\u0000");
        dueEach("octet", NONE, x::octet, -1, 3, 4, 300, MAX, MIN);
        due("255 is no -1", x.octet(0), 255);
        due("the last one", x.octet(2), 0);
        KeptTree full = Texts.of("?".repeat(299) + "!");
        due("the last of 300", full.octet(299), '!');
        dueEach("octet of 300", NONE, full::octet, 300, 301, -1);
        full.edit(0, 299, 0);
        due("what is left", full.octet(0), '!');
        dueEach("what was there is none", NONE, full::octet, 1, 299);
    }

    // Promises 16, 17: "NONE: no such ones", "-2: it is in none; NONE: no such byte"
    private static void tokenEdges() {
        KeptTree x = Texts.of(" ab ");
        for (int what = -1; what <= 6; what++) {
            int asked = what;
            dueEach("token, what " + what, NONE, token -> x.token(token, asked), -1, 1, 2, MAX, MIN);
        }
        dueEach("token 0", NONE, what -> x.token(0, what), -1, 6, 7, MAX, MIN);
        due("the NODE without children", x.token(0, 5), 1);
        due("ERROR", x.node(1, 0), 9);
        KeptTree sorts = Texts.of("a=1+'';{f((b,c));}if a ; else ;?");
        for (int i = 0; i < sorts.count(1); i++) {
            int leaf = sorts.token(i, 5);
            due("no children", sorts.node(leaf, 4), 0);
            due("that TOKEN", sorts.node(leaf, 9), i);
            due("that TOKEN alone", sorts.node(leaf, 10), 1);
        }
        dueEach("tokenAt: no such byte", NONE, x::tokenAt, -1, 4, 5, 300, MAX, MIN);
        dueEach("tokenAt: in none", -2, x::tokenAt, 0, 3);
        dueEach("tokenAt", 0, x::tokenAt, 1, 2);
        KeptTree full = Texts.of(";".repeat(300));
        due("the 300th", full.token(299, 1), 299);
        due("the 300th", full.tokenAt(299), 299);
        due("no 301st", full.token(300, 0), NONE);
        due("no 301st", full.tokenAt(300), NONE);
        dueEach("of an empty TEXT", NONE, new KeptTree()::tokenAt, 0, 1, -1);
        full.edit(1, 300, 0);
        dueEach("what went is none", NONE, token -> full.token(token, 0), 1, 299);
        dueEach("what went is none", NONE, full::tokenAt, 1, 299);
    }

    // Promise 18: its -2 and "NONE: no such ones"
    private static void nodeEdges() {
        KeptTree x = Texts.of(TWO);
        for (int what = -1; what <= 12; what++) {
            int asked = what;
            dueEach("node, what " + what, NONE, node -> x.node(node, asked), -1, 22, 23, MAX, MIN);
        }
        dueEach("node 0", NONE, what -> x.node(0, what), -1, 12, 13, MAX, MIN);
        dueEach("node 21", NONE, what -> x.node(21, what), -1, 12, 13, MAX, MIN);
        due("FILE is no child", x.node(0, 3), -2);
        due("FILE has no next", x.node(0, 6), -2);
        due("a child of FILE", x.node(1, 3), 0);
        due("no children", x.node(3, 5), -2);
        due("no children", x.node(3, 4), 0);
        due("the last child has no next", x.node(12, 6), -2);
        due("the last of all", x.node(21, 6), -2);
        due("the one ahead", x.node(20, 6), 21);
        due("FILE's first TOKEN", x.node(0, 9), 0);
        due("all TOKENS", x.node(0, 10), 15);
        due("all NODES", x.node(0, 11), 22);
        due("itself alone", x.node(21, 11), 1);
        due("FILE by itself", x.node(0, 7), 1);
        due("the deepest", x.node(11, 7), 6);
        KeptTree y = Texts.of("f(");
        due("first TOKEN of a MISSING", y.node(5, 9), -2);
        due("first TOKEN of a LIST of one", y.node(4, 9), -2);
        x.edit(0, 15, 0);
        dueEach("what went is none", NONE, node -> x.node(node, 0), 1, 21);
    }

    // Promise 19: "-2: not so many; NONE: no such ones"
    private static void childEdges() {
        KeptTree x = Texts.of(TWO);
        dueEach("no such NODE", NONE, node -> x.child(node, 0), -1, 22, MAX, MIN);
        dueEach("no such k", NONE, k -> x.child(2, k), -1, -2, MIN);
        dueEach("not so many", -2, k -> x.child(2, k), 4, 5, MAX);
        dueEach("not so many of none", -2, k -> x.child(3, k), 0, 1, MAX);
        due("NONE first", x.child(22, MAX), NONE);
        due("NONE first", x.child(3, -1), NONE);
        due("the first", x.child(2, 0), 3);
        due("the last", x.child(2, 3), 12);
        due("FILE's", x.child(0, 0), 1);
        due("FILE's one", x.child(0, 1), -2);
    }

    // Promise 20: "a sort (0 to 17), k NONE: how many; -2: not so many; NONE: no such ones"
    private static void findEdges() {
        KeptTree x = Texts.of(TWO);
        dueEach("no such sort", NONE, sort -> x.find(sort, 0), -1, 18, 19, MAX, MIN);
        dueEach("no such sort, how many", NONE, sort -> x.find(sort, NONE), -1, 18, MAX, MIN);
        dueEach("no such k", NONE, k -> x.find(12, k), -2, -3, MIN);
        dueEach("not so many", -2, k -> x.find(12, k), 4, 5, MAX);
        due("NONE first", x.find(18, 99), NONE);
        due("how many", x.find(12, NONE), 4);
        due("the first", x.find(12, 0), 3);
        due("the last", x.find(12, 3), 17);
        due("how many of none", x.find(17, NONE), 0);
        due("none", x.find(17, 0), -2);
        due("FILE", x.find(0, 0), 0);
        due("FILE alone", x.find(0, 1), -2);
    }

    // Promise 21: "NONE: no such bytes (a below b)"
    private static void coverEdges() {
        KeptTree x = Texts.of(" a=1; ");
        dueEach("a below 0", NONE, a -> x.cover(a, 3), -1, -2, MIN);
        dueEach("a not below b", NONE, a -> x.cover(a, 3), 3, 4, MAX);
        dueEach("b above all", NONE, b -> x.cover(1, b), 7, 8, MAX);
        dueEach("b not above a", NONE, b -> x.cover(1, b), 1, 0, -1, MIN);
        due("no bytes at the end", x.cover(6, 6), NONE);
        due("the end is no byte", x.cover(6, 7), NONE);
        due("the first byte", x.cover(0, 1), 0);
        due("the last byte", x.cover(5, 6), 0);
        due("all bytes", x.cover(0, 6), 0);
        due("just the ITEM", x.cover(1, 5), 1);
        due("one more", x.cover(1, 6), 0);
        due("a TOKEN", x.cover(4, 5), 5);
        KeptTree same = Texts.of("f(a)");
        // LIST and NAME have the same byte
        due("of like bytes the one within", same.cover(2, 3), 5);
        due("of an empty TEXT", new KeptTree().cover(0, 1), NONE);
        KeptTree full = Texts.of("?".repeat(300));
        due("the 300th", full.node(full.cover(299, 300), 1), 299);
        due("all 300: REPEAT", full.cover(0, 300), 1);
        due("301", full.cover(0, 301), NONE);
    }

    // Promises 22, 44: "(or is one of them)", "(0: the same)", "NONE: no such ones"
    private static void commonAndFarEdges() {
        KeptTree x = Texts.of(TWO);
        dueEach("common: one", NONE, one -> x.common(one, 0), -1, 22, MAX, MIN);
        dueEach("common: other", NONE, other -> x.common(0, other), -1, 22, MAX, MIN);
        dueEach("far: one", NONE, one -> x.far(one, 0), -1, 22, MAX, MIN);
        dueEach("far: other", NONE, other -> x.far(0, other), -1, 22, MAX, MIN);
        for (int node = 0; node < 22; node++) {
            due("common with itself", x.common(node, node), node);
            due("common with FILE", x.common(node, 0), 0);
            due("far from itself", x.far(node, node), 0);
            due("far from FILE", x.far(node, 0), x.node(node, 7) - 1);
            due("far from FILE", x.far(0, node), x.node(node, 7) - 1);
        }
        due("of two children", x.common(6, 8), 5);
        due("of two children", x.far(6, 8), 2);
        due("is one of them", x.common(8, 11), 8);
        due("is one of them", x.far(8, 11), 1);
        due("the first and the last", x.common(3, 21), 1);
        due("the first and the last", x.far(3, 21), 4);
        KeptTree deep = Texts.of("a=" + "+".repeat(298));
        due("the deepest", deep.far(0, deep.find(17, 0)), 300);
        due("the deepest and the last", deep.common(deep.find(17, 0), deep.find(17, 299)), 1);
        due("the deepest and the last", deep.far(deep.find(17, 0), deep.find(17, 299)), 300);
    }

    // Promise 23: "NONE: no such byte, it is none of these"
    private static void matchEdges() {
        KeptTree x = Texts.of("{f((a));} ");
        dueEach("no such byte", NONE, x::match, -1, 10, 11, MAX, MIN);
        int[] want = {8, NONE, 6, 5, NONE, 3, 2, NONE, 0, NONE};
        for (int i = 0; i < want.length; i++) {
            due("match(" + i + ")", x.match(i), want[i]);
        }
        // no MARKS: ERRORS, STRINGS, what is behind a #
        dueEach("none of these", NONE, Texts.of("(){ }}'('#{")::match, 0, 1, 5, 6, 7, 8, 9, 10);
        due("{ and } among ERRORS", Texts.of("(){ }}").match(2), 4);
        due("{ at NEST 10", Texts.of("{".repeat(11) + "}").match(10), NONE);
        due("} goes with the tenth", Texts.of("{".repeat(11) + "}").match(11), 9);
        due("( at NEST 10", Texts.of("{".repeat(10) + "a=(1);").match(12), NONE);
        due("of an empty TEXT", new KeptTree().match(0), NONE);
        due("at both ends of 300", Texts.of("{" + " ".repeat(298) + "}").match(0), 299);
        due("at both ends of 300", Texts.of("{" + " ".repeat(298) + "}").match(299), 0);
    }

    // Promise 23: "-2: it is MISSING"
    private static void matchMissing() {
        due("of a CALL", Texts.of("f(").match(1), -2);
        due("of a CALL with ;", Texts.of("f(1;").match(1), -2);
        due("of a BRACKET", Texts.of("a=(1;").match(2), -2);
        due("of a BLOCK", Texts.of("{;").match(0), -2);
        due("the inner ) is the BRACKET's", Texts.of("f((1);").match(4), 2);
        due("the outer one's is MISSING", Texts.of("f((1);").match(1), -2);
        due("the inner } is the inner one's", Texts.of("{{}").match(2), 1);
        due("the outer one's is MISSING", Texts.of("{{}").match(0), -2);
        due("( within a CALL's ( goes its own way", Texts.of("f(()").match(1), -2);
        due("( without ) in BRACKETS", Texts.of("a=((1)").match(2), -2);
    }

    // Promises 24, 25: "(the number of bytes, too: the end); NONE: no such one"
    private static void lineAndColumnEdges() {
        KeptTree x = Texts.of("ab\nc\n");
        dueEach("line", NONE, x::line, -1, 6, 7, 300, MAX, MIN);
        dueEach("column", NONE, x::column, -1, 6, 7, 300, MAX, MIN);
        int[] lines = {0, 0, 0, 1, 1, 2};
        int[] columns = {0, 1, 2, 0, 1, 0};
        for (int i = 0; i < 6; i++) {
            due("line(" + i + ")", x.line(i), lines[i]);
            due("column(" + i + ")", x.column(i), columns[i]);
        }
        KeptTree full = Texts.of("?".repeat(300));
        due("the end of 300", full.line(300), 0);
        due("the end of 300", full.column(300), 300);
        dueEach("behind the end of 300", NONE, full::column, 301, MAX);
        dueEach("behind the end of 300", NONE, full::line, 301, MAX);
        due("the end of nothing", new KeptTree().line(0), 0);
        due("the end of nothing", new KeptTree().column(0), 0);
        due("behind the end of nothing", new KeptTree().line(1), NONE);
        due("behind the end of nothing", new KeptTree().column(1), NONE);
    }

    // Promises 26, 27, 28, 29: "NONE: no such one"
    private static void lineRowsEdges() {
        KeptTree x = Texts.of("  a\n    \n b");
        int[] no = {-1, -2, 3, 4, 300, 301, MAX, MIN};
        dueEach("begin", NONE, x::begin, no);
        dueEach("begun", NONE, x::begun, no);
        dueEach("level", NONE, x::level, no);
        dueEach("blanks", NONE, x::blanks, no);
        int[] begins = {0, 4, 9};
        int[] blanks = {2, 4, 1};
        for (int i = 0; i < 3; i++) {
            due("begin(" + i + ")", x.begin(i), begins[i]);
            due("blanks(" + i + ")", x.blanks(i), blanks[i]);
        }
        due("300 blanks", Texts.of(" ".repeat(300)).blanks(0), 300);
        due("blanks up to byte 10", Texts.of("  \n  ").blanks(0), 2);
        due("blanks up to the end", Texts.of("\n  ").blanks(1), 2);
        due("no blanks", Texts.of("\n").blanks(0), 0);
        due("no blanks in nothing", new KeptTree().blanks(0), 0);
        due("blanks that a LINE begins with", Texts.of(" a  ").blanks(0), 1);
        due("byte 9 is no blank", Texts.of(" \t ").blanks(0), 1);
        due("a STRING's blanks are behind its quote", Texts.of("'  '").blanks(0), 0);
    }

    // Promise 27: "(those without TOKENS by their place; FILE in 0)"; Promise 28: "(that byte is theirs, too)"
    private static void begunAndLevelEdges() {
        KeptTree x = Texts.of("\n\n;");
        due("FILE in 0", x.begun(0), 1);
        due("nothing", x.begun(1), 0);
        due("EMPTY", x.begun(2), 1);
        KeptTree y = Texts.of("f(\n\n;");
        // FILE CALL NAME ( LIST MISSING MISSING | ;
        due("those without TOKENS by their place", y.begun(0), 7);
        due("none", y.begun(1), 0);
        due("; alone", y.begun(2), 1);
        KeptTree z = Texts.of("\nf(");
        due("at the end", z.begun(1), 7);
        int all = 0;
        KeptTree w = Texts.of("{a=1\nb=2;f(\n)\n}\n\nif x y");
        for (int line = 0; line < w.count(11); line++) {
            all += w.begun(line);
        }
        due("each NODE begins in one LINE", all, w.count(2));
        KeptTree level = Texts.of("{\n{\n}\n}\n;");
        int[] want = {0, 1, 2, 1, 0};
        for (int i = 0; i < want.length; i++) {
            due("level(" + i + ")", level.level(i), want[i]);
        }
        due("a BLOCK that begins with the LINE's first byte", Texts.of("\n{\n}").level(1), 0);
        due("a BLOCK whose last byte is the LINE's first", Texts.of("{\n}").level(1), 1);
        due("a BLOCK that ends ahead of it", Texts.of("{}\n;").level(1), 0);
        due("a BLOCK without } ends with its last TOKEN", Texts.of("{;\n \n").level(1), 0);
        due("a BLOCK without } whose last TOKEN is there", Texts.of("{\n;").level(1), 1);
        due("behind the last byte", Texts.of("{;\n").level(1), 0);
        due("ten of them", Texts.of("{".repeat(10) + "\n;").level(1), 10);
        due("other ones do not count", Texts.of("if a\nf(\n1);").level(2), 0);
    }

    // Promises 30, 31
    private static void alikeEdges() {
        KeptTree x = Texts.of(TWO);
        dueEach("alike: one", NONE, one -> x.alike(one, 0), -1, 22, MAX, MIN);
        dueEach("alike: other", NONE, other -> x.alike(0, other), -1, 22, MAX, MIN);
        dueEach("twins", NONE, x::twins, -1, 22, MAX, MIN);
        for (int node = 0; node < 22; node++) {
            due("alike itself", x.alike(node, node), 1);
        }
        due("as many children, of another sort", x.alike(5, 8), 0);
        due("the same bytes", x.alike(11, 17), 1);
        due("other bytes", x.alike(3, 17), 0);
        due("of one length", x.alike(6, 9), 0);
        KeptTree y = Texts.of("a a;a a1a");
        // ERRORS a a, EMPTY, ERRORS a a 1 a
        due("ERRORS by bytes", y.twins(y.find(9, 0)), 5);
        due("not of another length", Texts.of("a ab").alike(2, 3), 0);
        due("not of another length", Texts.of("ab a").alike(2, 3), 0);
        KeptTree z = Texts.of("f(;f(,;{{a=b");
        int no = z.find(17, 0);
        // MISSING: 0 none 1 ) 2 none 3 none 4 ) 5 ; 6 } 7 }
        due("MISSING", z.find(17, NONE), 8);
        due("both of none", z.alike(no, z.find(17, 2)), 1);
        due("of a sign and of none", z.alike(no, z.find(17, 1)), 0);
        due("of the same sign", z.alike(z.find(17, 1), z.find(17, 4)), 1);
        due("of another sign", z.alike(z.find(17, 4), z.find(17, 5)), 0);
        due("of another sign", z.alike(z.find(17, 5), z.find(17, 6)), 0);
        due("twins of none", z.twins(no), 3);
        due("twins of )", z.twins(z.find(17, 1)), 2);
        due("twins of ;", z.twins(z.find(17, 5)), 1);
        due("twins of }", z.twins(z.find(17, 6)), 2);
        due("MISSING ; is no MARK ;", z.alike(z.find(17, 5), z.child(z.find(3, 0), 4)), 0);
        KeptTree same = Texts.of(";".repeat(300));
        due("300 alike", same.twins(same.find(8, 7)), 300);
        due("FILE alone", same.twins(0), 1);
        due("REPEATS of two", same.twins(same.node(same.find(8, 0), 3)), 150);
        due("one behind the other", Texts.of("a=b+c;a=c+b;").alike(2, 10), 0);
        due("but blanks", Texts.of("a=b+c;a = b\n+ # c\nc ;").alike(2, 10), 1);
        due("a child less", Texts.of("f();f(1);").alike(2, 7), 0);
        KeptTree lists = Texts.of("f(;f(}f(");
        // what is behind a LIST of one MISSING is not of it
        due("LISTS of one MISSING", lists.alike(lists.find(4, 0), lists.find(4, 1)), 1);
        due("LISTS of one MISSING", lists.twins(lists.find(4, 2)), 3);
        due("CALLS of them", lists.alike(lists.find(3, 1), lists.find(3, 2)), 1);
        due("CALLS, one with ;", lists.alike(lists.find(3, 0), lists.find(3, 1)), 0);
    }

    // Promise 32: "of like ones the first", "-2: there is none; NONE: no such ones"
    private static void longestEdges() {
        KeptTree x = Texts.of("a=1;b=2;c=3+4;{}{}");
        dueEach("no such sort", NONE, sort -> x.longest(sort, 0), -1, 18, MAX, MIN);
        dueEach("no such what", NONE, what -> x.longest(2, what), -1, 2, MAX, MIN);
        dueEach("NONE ahead of -2", NONE, what -> x.longest(17, what), -1, 2);
        due("there is none", x.longest(17, 0), -2);
        due("there is none", x.longest(17, 1), -2);
        due("the longest", x.longest(2, 0), x.find(2, 2));
        due("how many", x.longest(2, 1), 6);
        due("of like ones the first", x.longest(5, 0), x.find(5, 0));
        due("of like ones the first", x.longest(13, 0), x.find(13, 0));
        due("FILE", x.longest(0, 0), 0);
        due("FILE", x.longest(0, 1), 18);
        KeptTree y = Texts.of("f(");
        due("of no TOKENS", y.longest(17, 0), 5);
        due("of no TOKENS", y.longest(17, 1), 0);
        due("of no TOKENS", y.longest(4, 1), 0);
        due("the most of 300", Texts.of(";".repeat(300)).longest(1, 1), 300);
    }

    // Promise 33: "-2: not so many; NONE: no such ones"
    private static void wrongEdges() {
        KeptTree x = Texts.of("?\na=");
        // ERROR, MISSING, MISSING ;
        dueEach("no such k", NONE, k -> x.wrong(k, 0), -1, -2, MIN);
        dueEach("no such what", NONE, what -> x.wrong(0, what), -1, 4, MAX, MIN);
        dueEach("NONE ahead of -2", NONE, what -> x.wrong(9, what), -1, 4);
        for (int what = 0; what < 4; what++) {
            int asked = what;
            dueEach("not so many", -2, k -> x.wrong(k, asked), 3, 4, MAX);
        }
        int[][] want = {{2, 0, 0, 0}, {6, 4, 1, 3}, {7, 4, 1, 3}};
        for (int k = 0; k < 3; k++) {
            for (int what = 0; what < 4; what++) {
                due("wrong(" + k + ", " + what + ")", x.wrong(k, what), want[k][what]);
            }
        }
        due("none is wrong", Texts.of(TWO).wrong(0, 0), -2);
        due("the 300th", Texts.of("?".repeat(300)).wrong(299, 1), 299);
        due("the 300th: TOKENS ahead", Texts.of("?".repeat(300)).wrong(299, 3), 299);
        due("no 301st", Texts.of("?".repeat(300)).wrong(300, 1), -2);
        KeptTree y = Texts.of("f(\n  ;");
        due("a MISSING's LINE is that of its place", y.wrong(1, 2), 0);
        due("TOKENS ahead of it", y.wrong(1, 3), 2);
    }

    // Promise 34: "(-2: there are none)", "NONE for others"
    private static void dirtyEdges() {
        KeptTree x = Texts.of("a;b;c;d;");
        dueEach("others", NONE, x::dirty, -1, 4, 5, MAX, MIN);
        x.edit(0, 0, 0);
        dueEach("others, of none", NONE, x::dirty, -1, 4, MAX, MIN);
        due("the first of none", x.dirty(0), -2);
        due("the last of none", x.dirty(1), -2);
        due("none", x.dirty(2), 0);
        due("from none to none", x.dirty(3), 0);
        KeptTree gap = Texts.of("a;' b;");
        // the quote reads to the end: an EDIT at the end leaves b ; as they were
        Texts.edit(gap, 6, 6, " ");
        due("the first", gap.dirty(0), 2);
        due("the last", gap.dirty(1), 2);
        gap = Texts.of("' ' b c");
        Texts.edit(gap, 1, 2, "");
        // '' b c : what is behind stays
        due("the first", gap.dirty(0), 0);
        due("the last", gap.dirty(1), 0);
        KeptTree two = Texts.of("x;' ;yy");
        // DIRTY are the quote and yy, which read the end; ; between them is KEPT
        Texts.edit(two, 7, 7, ";");
        due("the first", two.dirty(0), 2);
        due("the last", two.dirty(1), 5);
        due("how many", two.dirty(2), 3);
        due("from the first to the last", two.dirty(3), 4);
        KeptTree all = Texts.of(";".repeat(300));
        due("all 300", all.dirty(2), 300);
        due("all 300", all.dirty(3), 300);
        due("the 300th", all.dirty(1), 299);
    }

    // Promise 35: "NONE: no such one"
    private static void lostEdges() {
        KeptTree x = Texts.of(TWO);
        dueEach("no such sort", NONE, x::lost, -1, -2, 18, 19, MAX, MIN);
        due("FILE of nothing", x.lost(0), 1);
        due("the last sort", x.lost(17), 0);
        x.edit(0, 15, 0);
        int[] want = {1, 1, 1, 1, 1, 0, 0, 0, 0, 0, 1, 1, 4, 3, 0, 0, 8, 0};
        for (int sort = 0; sort < 18; sort++) {
            due("all is LOST: " + sort, x.lost(sort), want[sort]);
        }
        KeptTree y = Texts.of("f(");
        y.edit(0, 0, 0);
        due("MISSING is LOST always", y.lost(17), 3);
        due("LIST of one is LOST always", y.lost(4), 1);
    }

    // Promises 36, 37: "-2: there is none; NONE for others"
    private static void greatestAndWholeEdges() {
        KeptTree x = Texts.of("a=1;b=2;");
        dueEach("others", NONE, x::greatest, -1, 2, 3, MAX, MIN);
        due("there is none", x.greatest(0), -2);
        due("there is none", x.greatest(1), -2);
        due("none", x.whole(), 0);
        x.edit(8, 8, 0);
        due("all but FILE", x.greatest(0), 1);
        due("all but FILE", x.greatest(1), 8);
        due("one has all", x.whole(), 1);
        dueEach("others", NONE, x::greatest, -1, 2, MAX, MIN);
        Texts.edit(x, 8, 8, ";");
        // 1 REPEAT(2 REPEAT(..) EMPTY): that of the two is KEPT
        due("the REPEAT within", x.greatest(0), 2);
        due("the REPEAT within", x.greatest(1), 8);
        due("one", x.whole(), 1);
        Texts.edit(x, 4, 4, ";");
        // 1 REPEAT(2 REPEAT(3 SET ;) REPEAT(SET ;)): both SETS and the last ; are, no REPEAT is
        due("of like ones the first", x.greatest(0), 3);
        due("its TOKENS", x.greatest(1), 4);
        due("three", x.whole(), 3);
        KeptTree like = Texts.of("a=1;?b=2;");
        Texts.edit(like, 4, 5, "!");
        due("of like ones the first", like.greatest(0), like.find(2, 0));
        due("both", like.whole(), 2);
        KeptTree later = Texts.of(";!a=1;?f(1,2);");
        Texts.edit(later, 1, 2, "?");
        Texts.edit(later, 6, 7, "!");
        // ; ? SET by themselves, the CALL
        due("a later one is greater", later.greatest(0), later.find(3, 0));
        due("a later one is greater", later.greatest(1), 7);
        KeptTree none = Texts.of("ab");
        due("none is KEPT", none.edit(1, 1, 0), 0);
        due("there is none", none.greatest(0), -2);
        due("none", none.whole(), 0);
        KeptTree parts = Texts.of("a=1;");
        Texts.edit(parts, 2, 3, "2");
        // a = ; are KEPT, the SET is not
        due("three by themselves", parts.whole(), 3);
        due("the first of them", parts.greatest(0), 2);
    }

    // Promise 38: "cut", "(those undone, too)", "(undo(), redo() count for nothing)", "-2: there were none"
    private static void shareEdges() {
        KeptTree x = new KeptTree();
        due("there were none", x.share(), -2);
        x.undo();
        x.redo();
        due("refused ones are none", x.share(), -2);
        x.load(0);
        due("load is none", x.share(), -2);
        x.undo();
        x.redo();
        due("undo, redo are none", x.share(), -2);
        x.edit(0, 0, 0);
        due("0 of 1", x.share(), 0);
        KeptTree early = new KeptTree();
        early.edit(0, 0, 0);
        due("ahead of any load(): 0 of 1", early.share(), 0);
        Texts.edit(early, 0, 0, ";");
        Texts.edit(early, 1, 1, ";");
        // 0 of 1, 0 of 2, 1 of 4
        due("ahead of any load(): 1 of 7", early.share(), 14);
        KeptTree full = Texts.of(";".repeat(300));
        due("599 of 600", full.edit(0, 0, 0), 599);
        due("cut", full.share(), 99);
        full.undo();
        due("those undone, too", full.share(), 99);
        full.redo();
        due("done again it counts for nothing", full.share(), 99);
        full.undo();
        full.edit(0, 300, 0);
        // 599 of 601
        due("together", full.share(), 99);
        for (int i = 0; i < 6; i++) {
            full.edit(0, 0, 0);
        }
        // 599 of 607: 98.68
        due("together, cut", full.share(), 98);
        due("load of a tape that has not so many", full.load(1), NONE);
        due("refused: it stays", full.share(), 98);
        full.load(0);
        due("since load()", full.share(), -2);
        full.edit(0, 0, 0);
        due("since load()", full.share(), 0);
        KeptTree acts = Texts.of("{;}?");
        due("drop", acts.drop(acts.find(9, 0)), 1);
        due("drop: BLOCK { ; } of 5", acts.share(), 80);
        acts.unwrap(1);
        // 0 of 2
        due("4 of 7", acts.share(), 57);
        acts.wrap(1);
        // 0 of 5
        due("4 of 12", acts.share(), 33);
        acts.copy(1, 1);
        // 4 of 10
        due("8 of 22", acts.share(), 36);
        acts.swap(acts.find(5, 0), acts.find(5, 1));
        // 0 of 10
        due("8 of 32", acts.share(), 25);
        KeptTree more = Texts.of("a=1 ?");
        // FILE REPEAT SET NAME = 1 MISSING ERROR: all KEPT but FILE, MISSING
        due("edit", more.edit(0, 0, 0), 6);
        due("6 of 8", more.share(), 75);
        due("mend", more.mend(), 2);
        // a = of FILE SET NAME = 1 ;
        due("8 of 14", more.share(), 57);
        due("rename", Texts.rename(more, 2, "b"), 1);
        // = 1 ; of 6
        due("11 of 20", more.share(), 55);
        due("rename, refused", Texts.rename(more, 0, "b"), NONE);
        due("11 of 20 still", more.share(), 55);
    }

    // Promises 39, 40: "k NONE: how many", "-2: not so many; NONE: k below NONE", "NONE: no NAME"
    private static void namesAndUsesEdges() {
        KeptTree x = Texts.of("b=a;a=b;c");
        due("how many", x.names(NONE), 2);
        due("the first", x.names(0), x.find(12, 0));
        due("the second", x.names(1), x.find(12, 1));
        dueEach("not so many", -2, x::names, 2, 3, MAX);
        dueEach("below NONE", NONE, x::names, -2, -3, MIN);
        KeptTree none = Texts.of("a b 7;");
        due("ERRORS are no NAMES", none.names(NONE), 0);
        dueEach("of none", -2, none::names, 0, 1, MAX);
        dueEach("below NONE", NONE, none::names, -2, MIN);
        for (int node = 0; node < x.count(2); node++) {
            due("uses of " + node, x.uses(node), x.node(node, 0) == 12 ? 2 : NONE);
        }
        dueEach("no NODE", NONE, x::uses, -1, x.count(2), MAX, MIN);
        KeptTree many = Texts.of("a=a" + "+a".repeat(148) + ";");
        due("150 uses", many.uses(2), 150);
        due("one NAME", many.names(NONE), 1);
        due("words of the tongue are none", Texts.of("if if while a else").names(NONE), 1);
        due("a longer one is another", Texts.of("a=ab+a+abc;").names(NONE), 3);
    }

    private static long valueOf(String expression) {
        return Texts.of("a=" + expression + ";").value(4);
    }

    // Promise 41: "by whole numbers that go round in 64 bits (/ cut to 0, by 0 it is 0)"
    private static void valueGoesRound() {
        String half = "128*".repeat(8) + "64";
        // 2 to the 62nd
        due("2^62", valueOf(half), 1L << 62);
        due("2^63 goes round", valueOf(half + "*2"), Long.MIN_VALUE);
        due("2^64 goes round", valueOf(half + "*4"), 0);
        due("2^63 - 1", valueOf(half + "+(" + half + "-1)"), Long.MAX_VALUE);
        due("2^62 + 2^62 goes round", valueOf(half + "+" + half), Long.MIN_VALUE);
        due("0 - 2^63 - 1 goes round", valueOf("0-" + half + "-" + half + "-1"), Long.MAX_VALUE);
        due("2^63 by -1 goes round", valueOf(half + "*2/(0-1)"), Long.MIN_VALUE);
        due("cut to 0", valueOf("7/2"), 3);
        due("cut to 0", valueOf("(0-7)/2"), -3);
        due("cut to 0", valueOf("7/(0-2)"), -3);
        due("cut to 0", valueOf("(0-1)/2"), 0);
        due("by 0", valueOf("7/0"), 0);
        due("by 0", valueOf("(0-7)/(1-1)"), 0);
        due("0 by 0", valueOf("0/0"), 0);
        due("by a NAME", valueOf("7/b"), 0);
        due("by what is MISSING", valueOf("7/"), 0);
        due("by an empty STRING", valueOf("7/''"), 0);
        due("by 0 and on", valueOf("7/0+5"), 5);
        due("by 0 in a row", valueOf("7/0/0*9"), 0);
    }

    // Promise 41: "(of more digits than nine its last nine)", "Long.MIN_VALUE: others"
    private static void valueEdges() {
        due("one digit", valueOf("0"), 0);
        due("nine digits", valueOf("123456789"), 123456789);
        due("nine digits", valueOf("999999999"), 999999999);
        due("ten digits", valueOf("1234567890"), 234567890);
        due("ten digits", valueOf("1000000000"), 0);
        due("290 digits", valueOf("9".repeat(281) + "123456789"), 123456789);
        due("0 ahead", valueOf("000000000007"), 7);
        due("an empty STRING", valueOf("''"), 0);
        due("a STRING", valueOf("'12'"), 2);
        due("the longest STRING", valueOf("'" + "x".repeat(295) + "'"), 295);
        due("a NAME", valueOf("b"), 0);
        due("MISSING", valueOf(""), 0);
        due("a BRACKET of MISSING", valueOf("()"), 0);
        due("ten BRACKETS", valueOf("(".repeat(10) + "5" + ")".repeat(10)), 5);
        KeptTree eleven = Texts.of("a=" + "(".repeat(11) + "5");
        due("eleven BRACKETS: MISSING", eleven.value(eleven.find(15, 0)), 0);
        due("148 PRODUCTS", valueOf("2" + "*1".repeat(148)), 2);
        KeptTree x = Texts.of("a=1;f(2);{if b ; else ?}while c {}(");
        int nodes = x.count(2);
        for (int node = -1; node <= nodes; node++) {
            int sort = x.node(node, 0);
            boolean has = sort >= 10 && sort <= 15 || sort == 17;
            if (!has) {
                due("others: sort " + sort, x.value(node), Long.MIN_VALUE);
            }
        }
        dueEach("no NODE", Long.MIN_VALUE, x::value, -1, nodes, MAX, MIN);
        due("MISSING of a sign", Texts.of("{").value(3), 0);
    }

    // Promise 42: "that ends ahead of it", "-2: there is none; NONE: no NAME"
    private static void toldEdges() {
        KeptTree x = Texts.of("a=a;a=a+a;f(a);b=b;");
        int one = x.find(2, 0);
        int two = x.find(2, 1);
        int[] want = {-2, -2, one, one, one, -2, two, -2, -2};
        for (int k = 0; k < want.length; k++) {
            due("told of NAME " + k, x.told(x.find(12, k)), want[k]);
        }
        for (int node = 0; node < x.count(2); node++) {
            if (x.node(node, 0) != 12) {
                due("no NAME", x.told(node), NONE);
            }
        }
        dueEach("no NODE", NONE, x::told, -1, x.count(2), MAX, MIN);
        KeptTree y = Texts.of("a=1 a=2");
        due("it ends with its last TOKEN", y.told(y.find(12, 1)), y.find(2, 0));
        KeptTree z = Texts.of("ab=1;a=ab;abc=1;f(ab,a)");
        due("not a longer one, not a shorter one", z.told(z.find(12, 5)), z.find(2, 0));
        due("the last one", z.told(z.find(12, 6)), z.find(2, 1));
        KeptTree w = Texts.of("a(1);b=a;");
        due("a CALL tells nothing", w.told(w.find(12, 2)), -2);
        KeptTree v = Texts.of("{a=1;}b=a;");
        due("one in a BLOCK", v.told(v.find(12, 2)), v.find(2, 0));
    }

    // Promise 43: "k NONE: how many (whatever is asked)", "-2: not so many; NONE: no such ones"
    private static void itemEdges() {
        KeptTree x = Texts.of("{if a {;} else b}?");
        // BLOCK IF BLOCK EMPTY ERROR ERROR
        dueEach("how many, whatever is asked", 6, what -> x.item(NONE, what), 0, 1, 2, 3, -1, MAX, MIN);
        dueEach("no such k", NONE, k -> x.item(k, 0), -2, -3, MIN);
        dueEach("no such what", NONE, what -> x.item(0, what), -1, 3, MAX, MIN);
        dueEach("NONE ahead of -2", NONE, what -> x.item(6, what), -1, 3);
        for (int what = 0; what < 3; what++) {
            int asked = what;
            dueEach("not so many", -2, k -> x.item(k, asked), 6, 7, MAX);
        }
        int[] sorts = {5, 6, 5, 8, 9, 9};
        int[] blocks = {0, 1, 1, 2, 1, 0};
        int[] branches = {0, 0, 1, 1, 1, 0};
        for (int k = 0; k < 6; k++) {
            due("item(" + k + ", 0)", x.node(x.item(k, 0), 0), sorts[k]);
            due("item(" + k + ", 1)", x.item(k, 1), blocks[k]);
            due("item(" + k + ", 2)", x.item(k, 2), branches[k]);
        }
        due("of none", Texts.of(" ").item(NONE, 0), 0);
        due("of none", Texts.of(" ").item(0, 0), -2);
        KeptTree full = Texts.of("?".repeat(300));
        due("300", full.item(NONE, 0), 300);
        due("the 300th", full.node(full.item(299, 0), 1), 299);
        due("no 301st", full.item(300, 0), -2);
        due("ten BLOCKS", Texts.of("{".repeat(10) + ";").item(10, 1), 10);
        due("ten of IF, WHILE", Texts.of("if a while b ".repeat(5) + ";").item(10, 2), 10);
    }
}
