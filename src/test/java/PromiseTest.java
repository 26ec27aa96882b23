/** Each promise of the document by hand: what is ordinary, the edges, wrong inputs. */
public final class PromiseTest {
    private static final int NONE = KeptTree.NONE;
    private static final int FAR = Integer.MAX_VALUE;
    private static final int LOW = Integer.MIN_VALUE;
    private static final Checks CHECKS = new Checks();

    // 0 FILE 1 REPEAT 2 SET(3 NAME 4 = 5 SUM(6 NUMBER 7 + 8 PRODUCT(9 NUMBER 10 * 11 NAME)) 12 ;)
    // 13 CALL(14 NAME 15 ( 16 LIST(17 NAME 18 , 19 NUMBER) 20 ) 21 ;)
    private static final String TWO = "a=1+2*b;f(b,3);";

    private PromiseTest() {
    }

    public static void main(String[] args) {
        due("NONE", NONE, -1);
        newAndTape();
        tokensAndRead();
        treeOfItems();
        treeOfExpressions();
        treeOfLists();
        nestTen();
        editing();
        keepingByRead();
        renaming();
        dropping();
        wrapping();
        swapping();
        copying();
        unwrapping();
        mending();
        undoing();
        counting();
        nodesAndChildren();
        finding();
        covering();
        matching();
        lines();
        alikeOnes();
        wrongOnes();
        dirtyAndLost();
        sharing();
        namesAndUses();
        values();
        toldAndItems();
        steps();
        refusedChangesNothing();
        longTexts();
        CHECKS.end("PromiseTest");
    }

    private static void due(String call, long got, long want) {
        CHECKS.due(call, got, want);
    }

    private static void dueText(String call, KeptTree x, String want) {
        String got = Texts.text(x);
        due(call + " left [" + got + "] where [" + want + "] is due", got.equals(want) ? 1 : 0, 1);
    }

    /** The sorts of all nodes in their order, joined by dots, have to be those. */
    private static void dueSorts(String text, int... want) {
        KeptTree x = Texts.of(text);
        due("nodes of [" + text + "]", x.count(2), want.length);
        for (int i = 0; i < want.length; i++) {
            due("node(" + i + ", 0) of [" + text + "]", x.node(i, 0), want[i]);
        }
    }

    /** The answers of one question on a node, for each that is asked from 0 on. */
    private static void dueNode(KeptTree x, int node, int... want) {
        for (int what = 0; what < want.length; what++) {
            due("node(" + node + ", " + what + ")", x.node(node, what), want[what]);
        }
    }

    private static void dueToken(KeptTree x, int token, int... want) {
        for (int what = 0; what < want.length; what++) {
            due("token(" + token + ", " + what + ")", x.token(token, what), want[what]);
        }
    }

    private static String times(String piece, int many) {
        return piece.repeat(many);
    }

    // Promises 1, 2, 3, 15
    private static void newAndTape() {
        KeptTree x = new KeptTree();
        for (int what = 0; what <= 11; what++) {
            due("new: count(" + what + ")", x.count(what), what == 2 || what == 5 || what == 11 ? 1 : 0);
        }
        dueNode(x, 0, 0, 0, 0, -2, 0, -2, -2, 1, 0, -2, 0, 1, NONE);
        due("new: lost(0)", x.lost(0), 0);
        due("new: load(0)", x.load(0), 0);
        due("load(0) is an ACT", x.count(9), 1);
        due("feed", x.feed(0x61FF0080, 0x41424344, 0x0A0B0C0D, 0x7F808182, 0x30313233), 20);
        due("load(21)", x.load(21), NONE);
        due("load(-1)", x.load(-1), NONE);
        due("load(MIN)", x.load(LOW), NONE);
        due("the tape stays", x.count(8), 20);
        due("load(20)", x.load(20), 16);
        due("the tape is empty", x.count(8), 0);
        int[] bytes = {0x61, 0xFF, 0, 0x80, 0x41, 0x42, 0x43, 0x44, 10, 11, 12, 13, 0x7F, 0x80, 0x81, 0x82, 48, 49, 50, 51};
        for (int i = 0; i < 20; i++) {
            due("octet(" + i + ")", x.octet(i), bytes[i]);
        }
        due("octet(20)", x.octet(20), NONE);
        due("octet(-1)", x.octet(-1), NONE);
        due("octet(MAX)", x.octet(FAR), NONE);
        for (int k = 1; k <= 15; k++) {
            due("feed " + k, x.feed(0, 0, 0, 0, 0), 20 * k);
        }
        due("feed above 300", x.feed(0, 0, 0, 0, 0), NONE);
        due("the tape is full", x.count(8), 300);
        due("load(300)", x.load(300), 300);
        due("count(0)", x.count(0), 300);
    }

    // Promises 16, 17 and the terms TOKENS, READ
    private static void tokensAndRead() {
        KeptTree x = Texts.of("ab 12'x y'# a'b\n'c=d\n#'\nA7");
        // ab 12 'x y' | ' c = d | A 7
        due("count(1)", x.count(1), 9);
        dueToken(x, 0, 0, 0, 2, 2, 0);
        dueToken(x, 1, 1, 3, 2, 5, 0);
        dueToken(x, 2, 2, 5, 5, 9, 0);
        dueToken(x, 3, 4, 16, 1, 20, 0);
        dueToken(x, 4, 0, 17, 1, 18, 0);
        dueToken(x, 5, 3, 18, 1, 18, 0);
        dueToken(x, 6, 0, 19, 1, 20, 0);
        dueToken(x, 7, 4, 24, 1, 24, 0);
        dueToken(x, 8, 1, 25, 1, 26, 0);
        due("token(9, 0)", x.token(9, 0), NONE);
        due("token(-1, 0)", x.token(-1, 0), NONE);
        due("token(0, 6)", x.token(0, 6), NONE);
        due("token(0, -1)", x.token(0, -1), NONE);
        due("tokenAt(0)", x.tokenAt(0), 0);
        due("tokenAt(1)", x.tokenAt(1), 0);
        due("tokenAt(2)", x.tokenAt(2), -2);
        due("tokenAt(7)", x.tokenAt(7), 2);
        due("tokenAt(9)", x.tokenAt(9), 2);
        due("tokenAt(10)", x.tokenAt(10), -2);
        due("tokenAt(13)", x.tokenAt(13), -2);
        due("tokenAt(15)", x.tokenAt(15), -2);
        due("tokenAt(16)", x.tokenAt(16), 3);
        due("tokenAt(25)", x.tokenAt(25), 8);
        due("tokenAt(26)", x.tokenAt(26), NONE);
        due("tokenAt(-1)", x.tokenAt(-1), NONE);
        KeptTree y = Texts.of("'");
        dueToken(y, 0, 4, 0, 1, 1, 0, 1);
        KeptTree z = Texts.of("'''a");
        dueToken(z, 0, 2, 0, 2, 1);
        dueToken(z, 1, 4, 2, 1, 4);
        KeptTree marks = Texts.of("=(){};,+-*/");
        due("marks", marks.count(1), 11);
        for (int i = 0; i < 11; i++) {
            dueToken(marks, i, 3, i, 1, i);
        }
        KeptTree two = Texts.of(TWO);
        int[] leaves = {3, 4, 6, 7, 9, 10, 11, 12, 14, 15, 17, 18, 19, 20, 21};
        for (int i = 0; i < leaves.length; i++) {
            due("token(" + i + ", 5)", two.token(i, 5), leaves[i]);
        }
        KeptTree tab = Texts.of("\t_\"");
        for (int i = 0; i < 3; i++) {
            dueToken(tab, i, 4, i, 1, i);
        }
    }

    // The term TREE: FILE, REPEAT, ITEMS, BODY
    private static void treeOfItems() {
        dueSorts("", 0);
        dueSorts(" # ;;;\n", 0);
        dueSorts(";", 0, 8);
        dueSorts(";;", 0, 1, 8, 8);
        dueSorts(";;;", 0, 1, 1, 8, 8, 8);
        dueSorts(";;;;", 0, 1, 1, 8, 8, 1, 8, 8);
        dueSorts(";;;;;", 0, 1, 1, 1, 8, 8, 1, 8, 8, 8);
        dueSorts(";;;;;;;", 0, 1, 1, 1, 8, 8, 1, 8, 8, 1, 1, 8, 8, 8);
        dueSorts("{a=1;}", 0, 5, 16, 2, 12, 16, 13, 16, 16);
        dueSorts("{}", 0, 5, 16, 16);
        dueSorts("{", 0, 5, 16, 17);
        dueSorts("{;;", 0, 5, 16, 1, 8, 8, 17);
        dueSorts("{{}", 0, 5, 16, 5, 16, 16, 17);
        dueSorts("}", 0, 9);
        dueSorts("{}}", 0, 1, 5, 16, 16, 9);
        dueSorts("if a b=1; else ;", 0, 6, 16, 12, 2, 12, 16, 13, 16, 16, 8);
        dueSorts("if", 0, 6, 16, 17, 17);
        dueSorts("if else", 0, 6, 16, 17, 17, 16, 17);
        dueSorts("if if ; else ;", 0, 6, 16, 17, 6, 16, 17, 8, 16, 8);
        dueSorts("while a ; else", 0, 1, 7, 16, 12, 8, 9);
        dueSorts("while 1 {}", 0, 7, 16, 13, 5, 16, 16);
        dueSorts("if a b", 0, 6, 16, 12, 9);
        dueSorts("if a 7", 0, 1, 6, 16, 12, 17, 9);
        dueSorts("{if a}", 0, 5, 16, 6, 16, 12, 17, 16);
        dueSorts("a", 0, 9);
        dueSorts("else=1", 0, 1, 1, 9, 9, 9);
        dueSorts("a b=", 0, 1, 9, 2, 12, 16, 17, 17);
        dueSorts("7'x'", 0, 1, 9, 9);
        dueSorts("iff=1;", 0, 2, 12, 16, 13, 16);
    }

    // The term TREE: EXPRESSION, TERM, PART
    private static void treeOfExpressions() {
        dueSorts("a=1+2-3;", 0, 2, 12, 16, 10, 10, 13, 16, 13, 16, 13, 16);
        dueSorts("a=1+2*3/b;", 0, 2, 12, 16, 10, 13, 16, 11, 11, 13, 16, 13, 16, 12, 16);
        dueSorts("a='x'", 0, 2, 12, 16, 14, 17);
        dueSorts("a=(b);", 0, 2, 12, 16, 15, 16, 12, 16, 16);
        dueSorts("a=(", 0, 2, 12, 16, 15, 16, 17, 17, 17);
        dueSorts("a=+;", 0, 2, 12, 16, 10, 17, 16, 17, 16);
        dueSorts("a=-1", 0, 2, 12, 16, 10, 17, 16, 13, 17);
        dueSorts("a=while", 0, 1, 2, 12, 16, 17, 17, 7, 16, 17, 17);
        dueSorts("a=b c", 0, 1, 2, 12, 16, 12, 17, 9);
        dueSorts("a==", 0, 1, 2, 12, 16, 17, 17, 9);
    }

    // The term TREE: CALL, LIST
    private static void treeOfLists() {
        dueSorts("f();", 0, 3, 12, 16, 16, 16);
        dueSorts("f(1);", 0, 3, 12, 16, 4, 13, 16, 16);
        dueSorts("f(1,a+b,'');", 0, 3, 12, 16, 4, 13, 16, 10, 12, 16, 12, 16, 14, 16, 16);
        dueSorts("f(", 0, 3, 12, 16, 4, 17, 17, 17);
        dueSorts("f(;", 0, 3, 12, 16, 4, 17, 17, 16);
        dueSorts("f(,);", 0, 3, 12, 16, 4, 17, 16, 17, 16, 16);
        dueSorts("f)", 0, 1, 9, 9);
        KeptTree x = Texts.of(" f ( # c\n;");
        // CALL of f ( ; : the LIST of one MISSING stands behind the bracket
        dueNode(x, 1, 3, 1, 10, 0, 5, 2, -2, 2, 0, 0, 3, 7);
        dueNode(x, 4, 4, 4, 4, 1, 1, 5, 6, 3, 0, -2, 0, 2);
        dueNode(x, 5, 17, 4, 4, 4, 0, -2, -2, 4, 0, -2, 0, 1);
        dueNode(x, 6, 17, 4, 4, 1, 0, -2, 7, 3, 0, -2, 0, 1);
        KeptTree y = Texts.of("  ");
        dueNode(y, 0, 0, 0, 2, -2, 0, -2, -2, 1, 0, -2, 0, 1);
    }

    // The term NEST
    private static void nestTen() {
        KeptTree x = Texts.of(times("{", 11));
        due("blocks", x.find(5, -1), 10);
        due("errors", x.find(9, -1), 1);
        due("missing", x.find(17, -1), 10);
        KeptTree y = Texts.of("a=" + times("(", 11) + "1");
        due("brackets", y.find(15, -1), 10);
        // ( and 1 behind the SET are ERRORS
        due("errors", y.find(9, -1), 2);
        due("missing", y.find(17, -1), 12);
        KeptTree z = Texts.of(times("if a ", 10) + "while f(1);");
        due("ifs", z.find(6, -1), 10);
        due("whiles", z.find(7, -1), 0);
        due("error", z.find(9, -1), 1);
        due("call", z.node(z.find(3, 0), 3), 1);
        KeptTree s = Texts.of(times("while a ", 10) + "if {");
        due("whiles", s.find(7, -1), 10);
        due("ifs", s.find(6, -1), 0);
        // if is the BODY's ERROR; { is outside of all of them
        due("a BLOCK behind them", s.node(s.find(5, 0), 3), 1);
        KeptTree w = Texts.of(times("{", 9) + "if (a) {");
        // the bracket and the { are at NEST 10
        due("brackets", w.find(15, -1), 0);
        due("if", w.find(6, -1), 1);
        KeptTree v = Texts.of(times("{", 9) + "if a {");
        due("blocks", v.find(5, -1), 9);
        due("error in the body", v.node(v.find(9, 0), 3), v.find(6, 0));
        KeptTree u = Texts.of(times("{", 10) + "f(1)");
        due("call at NEST 10", u.find(3, -1), 1);
        KeptTree t = Texts.of(times("{", 11) + times("}", 11));
        due("no BLOCK takes the last }", t.find(9, -1), 2);
        due("none is missing", t.find(17, -1), 0);
    }

    // Promise 4
    private static void editing() {
        KeptTree x = Texts.of(TWO);
        due("edit", Texts.edit(x, 4, 5, "7"), 16);
        dueText("edit", x, "a=1+7*b;f(b,3);");
        due("count(8)", x.count(8), 0);
        due("edit at the end", Texts.edit(x, 15, 15, ";"), 21);
        due("edit of all", Texts.edit(x, 0, 16, ""), 0);
        dueText("edit of all", x, "");
        Texts.tape(x, "abc");
        due("edit(-1, 0, 1)", x.edit(-1, 0, 1), NONE);
        due("edit(0, 1, 1)", x.edit(0, 1, 1), NONE);
        due("edit(1, 0, 1)", x.edit(1, 0, 1), NONE);
        due("edit(0, 0, 21)", x.edit(0, 0, 21), NONE);
        due("edit(0, 0, -1)", x.edit(0, 0, -1), NONE);
        due("the tape stays", x.count(8), 20);
        due("edit(0, 0, 3)", x.edit(0, 0, 3), 0);
        dueText("edit", x, "abc");
        KeptTree y = Texts.of(times(";", 300));
        Texts.tape(y, "a");
        due("301", y.edit(0, 0, 1), -2);
        due("the tape stays", y.count(8), 20);
        due("NONE ahead of -2", y.edit(300, 301, 20), NONE);
        // one ITEM comes for twenty, so other ones are paired: the REPEATS go, 280 EMPTY stay
        due("281", y.edit(0, 20, 20), 280);
        due("count(0)", y.count(0), 300);
    }

    // The term KEPT
    private static void keepingByRead() {
        KeptTree x = Texts.of("ab=1;cd=2;");
        // behind ab the = is of its READ
        Texts.edit(x, 2, 2, " ");
        due("ab at an edit behind it", x.token(0, 4), 0);
        due("= behind it", x.token(1, 4), 1);
        KeptTree y = Texts.of("ab =1;cd=2;");
        Texts.edit(y, 3, 3, " ");
        due("ab one byte off", y.token(0, 4), 1);
        due("a NODE of KEPT ones", y.node(3, 8), 1);
        due("SET is KEPT", y.node(2, 8), 1);
        due("REPEAT is KEPT", y.node(1, 8), 1);
        due("FILE is not", y.node(0, 8), 0);
        KeptTree z = Texts.of("a ' b\nc");
        Texts.edit(z, 4, 5, "x");
        due("a stray quote reads its LINE", z.token(1, 4), 0);
        due("a", z.token(0, 4), 1);
        due("c", z.token(3, 4), 1);
        Texts.edit(z, 6, 7, "d");
        due("the quote is ahead of the edit now", z.token(1, 4), 1);
        KeptTree w = Texts.of("a ' b\nc");
        Texts.edit(w, 5, 6, " \n");
        due("byte 10 is of its READ", w.token(1, 4), 0);
        KeptTree v = Texts.of("a");
        Texts.edit(v, 1, 1, " ");
        due("the end is read, too", v.token(0, 4), 0);
        KeptTree u = Texts.of("x'a'b'");
        // xa 'b' : the quotes go together in another way
        Texts.edit(u, 1, 2, "");
        dueToken(u, 0, 0, 0, 2, 2, 0);
        dueToken(u, 1, 2, 2, 3, 4, 0);
        KeptTree t = Texts.of("a;1");
        Texts.edit(t, 1, 1, "a");
        dueToken(t, 0, 0, 0, 2, 2, 0);
        dueToken(t, 1, 3, 2, 1, 2, 1);
        dueToken(t, 2, 1, 3, 1, 4, 1);
        KeptTree s = Texts.of("{;}{;}");
        // what stood side by side does so no more
        Texts.edit(s, 1, 2, "");
        due("tokens", s.count(6), 5);
        due("the first BLOCK is of other TOKENS", s.node(2, 8), 0);
        due("the second BLOCK", s.node(5, 8), 1);
        KeptTree o = Texts.of(";;;;;;");
        // ((01)(23))(45) becomes ((--)(01))((23)(45)): the pairs stay
        due("REPEATS of just these TOKENS", Texts.edit(o, 0, 0, ";;"), 6 + 3);
        due("lost REPEATS", o.lost(1), 2);
        KeptTree r = Texts.of("a=b*c;");
        Texts.edit(r, 0, 0, "b+");
        // b + a = b * c ; : ERROR ERROR SET
        due("SET stays", r.node(r.find(2, 0), 8), 1);
        KeptTree q = Texts.of("f(1+2);");
        Texts.edit(q, 2, 2, "3*");
        // the SUM of 1+2 is no more: 3*1 + 2
        due("SUM", q.node(q.find(10, 0), 8), 0);
        due("NUMBERS", q.lost(13), 0);
        due("SUM is lost", q.lost(10), 1);
        KeptTree p = Texts.of("f(");
        Texts.edit(p, 2, 2, " ");
        due("( is KEPT", p.token(1, 4), 1);
        due("one without TOKENS is not", p.node(4, 8), 0);
        due("nor MISSING", p.node(5, 8), 0);
        due("CALL is", p.node(1, 8), 1);
        due("lost MISSING", p.lost(17), 3);
        due("lost LIST", p.lost(4), 1);
    }

    // Promise 5
    private static void renaming() {
        KeptTree x = Texts.of("b=1;a=b+b; b c=b;");
        // b (token 10) is an ERROR, no NAME
        int b = x.names(0);
        due("rename", Texts.rename(x, b, "xyz"), 4);
        dueText("rename", x, "xyz=1;a=xyz+xyz; b c=xyz;");
        due("the tape is empty", x.count(8), 0);
        due("dirty from the first one's first", x.dirty(0), 0);
        due("to the last one's last", x.dirty(1), x.count(1) - 2);
        due("the last ; is KEPT", x.token(x.count(1) - 1, 4), 1);
        int xyz = x.names(0);
        Texts.tape(x, "xyzaifelsewhile2b");
        due("are so already", x.rename(xyz, 3), -3);
        due("n 0", x.rename(xyz, 0), NONE);
        due("n -1", x.rename(xyz, -1), NONE);
        due("n above the tape", x.rename(xyz, 21), NONE);
        due("a digit", x.rename(xyz, 16), NONE);
        due("no NAME", x.rename(0, 1), NONE);
        due("no NODE", x.rename(-1, 1), NONE);
        due("no NODE", x.rename(FAR, 1), NONE);
        due("the tape stays", x.count(8), 20);
        due("the longest", x.rename(xyz, 15), 4);
        dueText("rename", x, "xyzaifelsewhile=1;a=xyzaifelsewhile+xyzaifelsewhile; b c=xyzaifelsewhile;");
        int name = x.names(0);
        for (String key : new String[] {"if", "else", "while"}) {
            Texts.tape(x, key);
            due("rename to " + key, x.rename(name, key.length()), -3);
            x.edit(0, 0, 0);
        }
        Texts.tape(x, "iff");
        due("rename to iff", x.rename(name, 3), 4);
        KeptTree y = Texts.of("a=a" + times("+a", 147) + ";;;");
        due("300", y.count(0), 300);
        Texts.tape(y, "if");
        due("-2 ahead of -3", y.rename(y.find(12, 0), 2), -2);
        KeptTree z = Texts.of("ab=1; c=2;");
        due("one NAME", Texts.rename(z, 3, "q"), 1);
        due("behind it is KEPT", z.dirty(2), 1);
        KeptTree w = Texts.of("a=b;b=a;");
        due("to another NAME's", Texts.rename(w, w.names(0), "b"), 2);
        dueText("rename", w, "b=b;b=b;");
        due("now one", w.names(-1), 1);
        KeptTree v = Texts.of("a=bc;");
        Texts.tape(v, "bcdefghijklmnopqrstu");
        due("so already", v.rename(v.names(1), 2), -3);
        due("all of the tape", v.rename(v.names(1), 20), 1);
        dueText("rename", v, "a=bcdefghijklmnopqrstu;");
    }

    // Promise 6
    private static void dropping() {
        KeptTree x = Texts.of("a=1; f(2) ; ;");
        due("drop", x.drop(x.find(3, 0)), 6);
        dueText("drop", x, "a=1;  ;");
        due("SET is KEPT", x.node(x.find(2, 0), 8), 1);
        due("; is KEPT", x.token(x.count(1) - 1, 4), 1);
        due("drop", x.drop(x.find(8, 0)), 1);
        due("no ITEM: FILE", x.drop(0), NONE);
        due("no ITEM: NAME", x.drop(2), NONE);
        due("no NODE", x.drop(-1), NONE);
        due("no NODE", x.drop(99), NONE);
        due("drop the SET", x.drop(1), 4);
        dueText("drop", x, "  ");
        KeptTree y = Texts.of("ab if c ; {d}");
        due("REPEAT is no ITEM", y.drop(1), NONE);
        due("drop IF", y.drop(y.find(6, 0)), 6);
        due("drop ERROR", y.drop(y.find(9, 0)), 2);
        due("drop BLOCK", y.drop(y.find(5, 0)), 3);
        KeptTree z = Texts.of("while a ;");
        due("drop EMPTY of a BODY", z.drop(z.find(8, 0)), 1);
        due("drop WHILE", z.drop(z.find(7, 0)), 7);
        dueText("drop", z, " ");
    }

    // Promise 7
    private static void wrapping() {
        KeptTree x = Texts.of("a=1;;b");
        due("wrap", x.wrap(x.find(2, 0)), 2);
        dueText("wrap", x, "{a=1;};b");
        due("none of it is KEPT", x.dirty(3), 6);
        due("no ITEM", x.wrap(0), NONE);
        due("no NODE", x.wrap(-5), NONE);
        due("no NODE", x.wrap(FAR), NONE);
        KeptTree y = Texts.of(times(";", 298));
        // of 297 REPEATS those of 298, 42, 10, 2 ITEMS have the last one
        due("300", y.wrap(y.find(8, 297)), 297 + 293);
        due("count(0)", y.count(0), 300);
        due("302", y.wrap(y.find(8, 0)), -2);
        due("NONE ahead of -2", y.wrap(0), NONE);
        KeptTree z = Texts.of(times(";", 299));
        due("301", z.wrap(z.find(8, 0)), -2);
    }

    // Promise 8
    private static void swapping() {
        KeptTree x = Texts.of(";a=1; # c\n{b=2;};");
        int set = x.find(2, 0);
        int block = x.find(5, 0);
        // KEPT are ; ahead of it and ; behind it
        due("swap", x.swap(block, set), 2);
        dueText("swap", x, ";{b=2;} # c\na=1;;");
        due("swap back", x.swap(x.find(5, 0), x.find(2, 1)), 2);
        dueText("swap", x, ";a=1; # c\n{b=2;};");
        due("within", x.swap(x.find(5, 0), x.find(2, 1)), -2);
        due("within, the other way", x.swap(x.find(2, 1), x.find(5, 0)), -2);
        due("one and the same", x.swap(block, block), NONE);
        due("no ITEM", x.swap(0, block), NONE);
        due("no ITEM", x.swap(block, 0), NONE);
        due("no NODE", x.swap(block, -1), NONE);
        due("no NODE", x.swap(FAR, block), NONE);
        KeptTree y = Texts.of("if a b=1; else {}");
        due("swap of BODIES", y.swap(y.find(2, 0), y.find(5, 0)), 2);
        dueText("swap", y, "if a {} else b=1;");
    }

    // Promise 9
    private static void copying() {
        KeptTree x = Texts.of("a=1;f();");
        int set = x.find(2, 0);
        int call = x.find(3, 0);
        // all of both is KEPT, but the REPEAT
        due("copy", x.copy(call, set), 10);
        dueText("copy", x, "f();a=1;f();");
        due("dirty", x.dirty(2), 4);
        due("copy of itself", x.copy(x.find(2, 0), x.find(2, 0)), 15);
        dueText("copy", x, "f();a=1;a=1;f();");
        due("no ITEM", x.copy(0, 2), NONE);
        due("no ITEM", x.copy(x.find(2, 0), 1), NONE);
        due("no NODE", x.copy(-1, x.find(2, 0)), NONE);
        KeptTree y = Texts.of("{;}");
        due("into itself", y.copy(1, 3), 3);
        dueText("copy", y, "{{;};}");
        KeptTree z = Texts.of("ab=1;" + times(";", 290));
        due("300", z.copy(z.find(2, 0), z.find(8, 0)) >= 0 ? 1 : 0, 1);
        due("count(0)", z.count(0), 300);
        due("301", z.copy(z.find(8, 0), z.find(8, 0)), -2);
        due("NONE ahead of -2", z.copy(0, z.find(8, 0)), NONE);
    }

    // Promise 10
    private static void unwrapping() {
        KeptTree x = Texts.of(";{ a=1; };");
        due("unwrap", x.unwrap(x.find(5, 0)), 2);
        dueText("unwrap", x, "; a=1; ;");
        due("no BLOCK", x.unwrap(x.find(2, 0)), NONE);
        due("no NODE", x.unwrap(-1), NONE);
        due("no NODE", x.unwrap(FAR), NONE);
        KeptTree y = Texts.of("{{;}");
        due("} is missing", y.unwrap(1), 0);
        dueText("unwrap", y, "{;}");
        due("unwrap", y.unwrap(1), 0);
        dueText("unwrap", y, ";");
        KeptTree z = Texts.of(" {");
        due("unwrap", z.unwrap(1), 0);
        dueText("unwrap", z, " ");
    }

    // Promise 11
    private static void mending() {
        KeptTree x = Texts.of("f(a # c\n x {b=(1");
        // ) ; behind a, x goes, ) ; } behind 1
        due("mend", x.mend(), 6);
        dueText("mend", x, "f(a); # c\n  {b=(1);}");
        due("count(3)", x.count(3), 0);
        due("count(4)", x.count(4), 0);
        due("f ( are KEPT, a reads on", x.dirty(0), 2);
        due("none is wrong", x.mend(), NONE);
        KeptTree y = Texts.of("a=;if");
        due("MISSING of no sign", y.mend(), NONE);
        KeptTree z = Texts.of("abc 12 ';");
        due("ERRORS go", z.mend(), 3);
        dueText("mend", z, "  ;");
        due("; is KEPT", z.token(0, 4), 1);
        KeptTree w = Texts.of("f(" + times(" ", 297));
        due("301", w.mend(), -2);
        KeptTree v = Texts.of("f(" + times(" ", 296));
        due("300", v.mend(), 2);
        due("count(0)", v.count(0), 300);
        KeptTree u = Texts.of("a=1=");
        due("; comes, = goes", u.mend(), 2);
        dueText("mend", u, "a=1;");
        due("a = are KEPT", u.dirty(2), 2);
        KeptTree t = Texts.of("{x");
        due("x goes, } comes", t.mend(), 2);
        dueText("mend", t, "{}");
    }

    // Promises 12, 13
    private static void undoing() {
        KeptTree x = new KeptTree();
        due("undo", x.undo(), NONE);
        due("redo", x.redo(), NONE);
        for (int i = 0; i < 14; i++) {
            Texts.edit(x, i, i, ";");
            due("count(9)", x.count(9), Math.min(12, i + 1));
        }
        for (int i = 0; i < 12; i++) {
            due("undo", x.undo(), 11 - i);
            due("count(0)", x.count(0), 13 - i);
            due("count(10)", x.count(10), i + 1);
        }
        due("undo", x.undo(), NONE);
        due("count(0)", x.count(0), 2);
        due("nothing is KEPT", x.count(6) + x.count(7), 0);
        due("all is DIRTY", x.dirty(2), 2);
        due("all is LOST", x.lost(8), 3);
        due("LOST: REPEATS", x.lost(1), 2);
        due("redo", x.redo(), 11);
        due("redo", x.redo(), 10);
        due("count(0)", x.count(0), 4);
        due("count(9)", x.count(9), 2);
        due("all is LOST", x.lost(8), 3);
        due("refused", x.edit(9, 9, 0), NONE);
        due("can be done again still", x.count(10), 10);
        due("an ACT", x.drop(x.find(8, 0)), 1);
        due("redo", x.redo(), NONE);
        due("count(9)", x.count(9), 3);
        due("undo", x.undo(), 2);
        due("count(0)", x.count(0), 4);
        KeptTree y = Texts.of("a=1;");
        Texts.load(y, "b");
        due("load is undone", y.undo(), 1);
        dueText("undo", y, "a=1;");
        due("NONE is KEPT", y.count(7), 0);
        due("done again", y.redo(), 0);
        dueText("redo", y, "b");
        due("undo all", y.undo() + y.undo(), 1);
        dueText("undo", y, "");
        due("count(2)", y.count(2), 1);
    }

    // Promise 14
    private static void counting() {
        KeptTree x = Texts.of("a=1+2*b;\nx f(");
        int[] want = {13, 11, 22, 1, 3, 7, 0, 0, 0, 1, 0, 2};
        for (int what = 0; what < want.length; what++) {
            due("count(" + what + ")", x.count(what), want[what]);
        }
        due("count(12)", x.count(12), NONE);
        due("count(-1)", x.count(-1), NONE);
        due("count(MIN)", x.count(LOW), NONE);
        due("count(MAX)", x.count(FAR), NONE);
        KeptTree y = Texts.of("\n\n");
        due("LINES", y.count(11), 3);
    }

    // Promises 18, 19
    private static void nodesAndChildren() {
        KeptTree x = Texts.of(" " + TWO + "\n");
        dueNode(x, 0, 0, 0, 17, -2, 1, 1, -2, 1, 0, 0, 15, 22, NONE);
        dueNode(x, 1, 1, 1, 16, 0, 2, 2, -2, 2, 0, 0, 15, 21, NONE);
        dueNode(x, 2, 2, 1, 9, 1, 4, 3, 13, 3, 0, 0, 8, 11, NONE);
        dueNode(x, 8, 11, 5, 8, 5, 3, 9, -2, 5, 0, 4, 3, 4, NONE);
        dueNode(x, 11, 12, 7, 8, 8, 0, -2, -2, 6, 0, 6, 1, 1, NONE);
        dueNode(x, 16, 4, 11, 14, 13, 3, 17, 20, 4, 0, 10, 3, 4, NONE);
        due("node(0, -1)", x.node(0, -1), NONE);
        due("node(-1, 0)", x.node(-1, 0), NONE);
        due("node(22, 0)", x.node(22, 0), NONE);
        due("node(MAX, 3)", x.node(FAR, 3), NONE);
        int[] kids = {14, 15, 16, 20, 21, -2};
        for (int k = 0; k < kids.length; k++) {
            due("child(13, " + k + ")", x.child(13, k), kids[k]);
        }
        due("child(13, MAX)", x.child(13, FAR), -2);
        due("child(13, -1)", x.child(13, -1), NONE);
        due("child(22, 0)", x.child(22, 0), NONE);
        due("child(-1, 0)", x.child(-1, 0), NONE);
        due("child(14, 0)", x.child(14, 0), -2);
        due("child(0, 0)", x.child(0, 0), 1);
        due("child(0, 1)", x.child(0, 1), -2);
    }

    // Promise 20
    private static void finding() {
        KeptTree x = Texts.of(TWO);
        int[] many = {1, 1, 1, 1, 1, 0, 0, 0, 0, 0, 1, 1, 4, 3, 0, 0, 8, 0};
        for (int sort = 0; sort < many.length; sort++) {
            due("find(" + sort + ", -1)", x.find(sort, -1), many[sort]);
            due("find(" + sort + ", many)", x.find(sort, many[sort]), -2);
        }
        due("find(12, 0)", x.find(12, 0), 3);
        due("find(12, 3)", x.find(12, 3), 17);
        due("find(12, MAX)", x.find(12, FAR), -2);
        due("find(12, -2)", x.find(12, -2), NONE);
        due("find(-1, 0)", x.find(-1, 0), NONE);
        due("find(18, -1)", x.find(18, -1), NONE);
        due("find(18, 99)", x.find(18, 99), NONE);
    }

    // Promises 21, 22
    private static void covering() {
        KeptTree x = Texts.of(" a=(b); f(c) #");
        // 0 FILE 1 REPEAT 2 SET(3 a 4 = 5 BRACKET(6 ( 7 b 8 )) 9 ;) 10 CALL(11 f 12 ( 13 LIST(14 c) 15 ) 16 MISSING)
        due("cover(0, 1)", x.cover(0, 1), 0);
        due("cover(1, 2)", x.cover(1, 2), 3);
        due("cover(3, 5)", x.cover(3, 5), 5);
        due("cover(4, 5)", x.cover(4, 5), 7);
        due("cover(2, 4)", x.cover(2, 4), 2);
        due("cover(6, 8)", x.cover(6, 8), 1);
        due("cover(7, 8)", x.cover(7, 8), 1);
        due("cover(10, 11)", x.cover(10, 11), 14);
        due("cover(11, 13)", x.cover(11, 13), 0);
        due("cover(0, 14)", x.cover(0, 14), 0);
        due("cover(3, 3)", x.cover(3, 3), NONE);
        due("cover(4, 3)", x.cover(4, 3), NONE);
        due("cover(-1, 3)", x.cover(-1, 3), NONE);
        due("cover(0, 15)", x.cover(0, 15), NONE);
        due("common(7, 9)", x.common(7, 9), 2);
        due("common(7, 5)", x.common(7, 5), 5);
        due("common(5, 7)", x.common(5, 7), 5);
        due("common(7, 16)", x.common(7, 16), 1);
        due("common(4, 4)", x.common(4, 4), 4);
        due("common(0, 14)", x.common(0, 14), 0);
        due("common(-1, 0)", x.common(-1, 0), NONE);
        due("common(0, 17)", x.common(0, 17), NONE);
    }

    // Promise 23
    private static void matching() {
        KeptTree x = Texts.of("{f((a),(b);}(){");
        // { f ( ( a ) , ( b ) ; } ( ) {
        due("match(0)", x.match(0), 11);
        due("match(11)", x.match(11), 0);
        due("match(2)", x.match(2), -2);
        due("match(3)", x.match(3), 5);
        due("match(5)", x.match(5), 3);
        due("match(7)", x.match(7), 9);
        due("match(9)", x.match(9), 7);
        due("match(1)", x.match(1), NONE);
        due("match(4)", x.match(4), NONE);
        due("match(6)", x.match(6), NONE);
        due("match(10)", x.match(10), NONE);
        due("( is an ERROR", x.match(12), NONE);
        due(") is an ERROR", x.match(13), NONE);
        due("match(14)", x.match(14), -2);
        due("match(15)", x.match(15), NONE);
        due("match(-1)", x.match(-1), NONE);
        KeptTree y = Texts.of("f ( ) ; a='('#(");
        due("match(2)", y.match(2), 4);
        due("match(4)", y.match(4), 2);
        due("match(3)", y.match(3), NONE);
        due("in a STRING", y.match(11), NONE);
        due("behind #", y.match(14), NONE);
        KeptTree z = Texts.of("a=(");
        due("a BRACKET's", z.match(2), -2);
    }

    // Promises 24 to 29
    private static void lines() {
        KeptTree x = Texts.of("{\n  a=1\n\n}   \n{ \n");
        // LINES begin at 0 2 8 9 14 17; the first BLOCK has 0 to 9, the second 14
        int[] begins = {0, 2, 8, 9, 14, 17};
        int[] levels = {0, 1, 1, 1, 0, 0};
        int[] blanks = {0, 2, 0, 0, 0, 0};
        // FILE REPEAT BLOCK { | SET a = 1 MISSING | - | } | BLOCK { MISSING | -
        int[] begun = {4, 5, 0, 1, 3, 0};
        due("count(11)", x.count(11), 6);
        for (int i = 0; i < 6; i++) {
            due("begin(" + i + ")", x.begin(i), begins[i]);
            due("level(" + i + ")", x.level(i), levels[i]);
            due("blanks(" + i + ")", x.blanks(i), blanks[i]);
            due("begun(" + i + ")", x.begun(i), begun[i]);
            due("line of its first byte", x.line(begins[i]), i);
            due("column of its first byte", x.column(begins[i]), 0);
        }
        for (int no : new int[] {-1, 6, LOW, FAR}) {
            due("begin(" + no + ")", x.begin(no), NONE);
            due("level(" + no + ")", x.level(no), NONE);
            due("blanks(" + no + ")", x.blanks(no), NONE);
            due("begun(" + no + ")", x.begun(no), NONE);
        }
        due("line(1)", x.line(1), 0);
        due("column(1)", x.column(1), 1);
        due("line(7)", x.line(7), 1);
        due("column(7)", x.column(7), 5);
        due("line of the end", x.line(17), 5);
        due("column of the end", x.column(17), 0);
        due("line(18)", x.line(18), NONE);
        due("column(18)", x.column(18), NONE);
        due("line(-1)", x.line(-1), NONE);
        due("column(-1)", x.column(-1), NONE);
        KeptTree y = Texts.of("{;\n;");
        due("a BLOCK without }", y.level(1), 1);
        KeptTree z = Texts.of("{;\n #");
        due("it ends with its last TOKEN", z.level(1), 0);
        due("blanks ahead of a #", z.blanks(1), 1);
        KeptTree w = Texts.of("    ");
        due("blanks", w.blanks(0), 4);
        due("column of the end", w.column(4), 4);
        KeptTree v = Texts.of(" \t ");
        due("a tab is none", v.blanks(0), 1);
        KeptTree u = Texts.of("{{\n}\n}");
        KeptTree t = Texts.of("\nf(");
        due("FILE", t.begun(0), 1);
        due("MISSING at the end", t.begun(1), 7);
        due("both", u.level(1), 2);
        due("the outer one", u.level(2), 1);
    }

    // Promises 30, 31, 32
    private static void alikeOnes() {
        KeptTree x = Texts.of("a=1 + b;a=1+b; a=1-b;f(f(");
        int one = x.find(2, 0);
        int two = x.find(2, 1);
        int three = x.find(2, 2);
        due("alike but for blanks", x.alike(one, two), 1);
        due("another sign", x.alike(one, three), 0);
        due("twins", x.twins(one), 2);
        due("twins", x.twins(three), 1);
        due("NAME and NAME", x.alike(one + 1, two + 1), 1);
        due("twins of a", x.twins(one + 1), 3);
        due("twins of =", x.twins(one + 2), 3);
        due("SET and NAME", x.alike(one, one + 1), 0);
        due("itself", x.alike(0, 0), 1);
        due("alike(-1, 0)", x.alike(-1, 0), NONE);
        due("alike(0, MAX)", x.alike(0, FAR), NONE);
        due("twins(-1)", x.twins(-1), NONE);
        due("twins(MAX)", x.twins(FAR), NONE);
        KeptTree y = Texts.of("f(;g(;a=;if");
        // MISSING: no sign, ) | no sign, ) | no sign | no sign, no sign
        due("MISSING", y.find(17, -1), 7);
        due("both of no sign", y.alike(y.find(17, 0), y.find(17, 2)), 1);
        due("of another sign", y.alike(y.find(17, 0), y.find(17, 1)), 0);
        due("of the same sign", y.alike(y.find(17, 1), y.find(17, 3)), 1);
        due("twins of no sign", y.twins(y.find(17, 0)), 5);
        due("twins of )", y.twins(y.find(17, 1)), 2);
        due("LISTS of one MISSING", y.alike(y.find(4, 0), y.find(4, 1)), 1);
        due("CALLS of other NAMES", y.alike(y.find(3, 0), y.find(3, 1)), 0);
        KeptTree z = Texts.of("f(1);f(1,1);7 07 7");
        due("as many children", z.alike(z.find(4, 0), z.find(4, 1)), 0);
        due("by bytes", z.alike(z.find(9, 0), z.find(9, 1)), 0);
        due("by bytes", z.alike(z.find(9, 0), z.find(9, 2)), 1);
        due("longest", z.longest(4, 0), z.find(4, 1));
        due("longest", z.longest(4, 1), 3);
        due("of like ones the first", z.longest(13, 0), z.find(13, 0));
        due("FILE", z.longest(0, 1), 15);
        due("there is none", z.longest(5, 0), -2);
        due("there is none", z.longest(5, 1), -2);
        due("MISSING", y.longest(17, 1), 0);
        due("MISSING", y.longest(17, 0), y.find(17, 0));
        due("longest(18, 0)", z.longest(18, 0), NONE);
        due("longest(-1, 0)", z.longest(-1, 0), NONE);
        due("longest(5, 2)", z.longest(5, 2), NONE);
        due("longest(5, -1)", z.longest(5, -1), NONE);
    }

    // Promise 33
    private static void wrongOnes() {
        KeptTree x = Texts.of("x\n f(\n)");
        // x is an ERROR; of the CALL ; is MISSING
        due("wrong(0, 0)", x.wrong(0, 0), 2);
        due("wrong(0, 1)", x.wrong(0, 1), 0);
        due("wrong(0, 2)", x.wrong(0, 2), 0);
        due("wrong(0, 3)", x.wrong(0, 3), 0);
        due("wrong(1, 0)", x.wrong(1, 0), 7);
        due("wrong(1, 1)", x.wrong(1, 1), 7);
        due("wrong(1, 2)", x.wrong(1, 2), 2);
        due("wrong(1, 3)", x.wrong(1, 3), 4);
        due("wrong(2, 0)", x.wrong(2, 0), -2);
        due("wrong(-1, 0)", x.wrong(-1, 0), NONE);
        due("wrong(0, 4)", x.wrong(0, 4), NONE);
        due("wrong(0, -1)", x.wrong(0, -1), NONE);
        due("NONE ahead of -2", x.wrong(9, 4), NONE);
        KeptTree y = Texts.of("a=\n  ;\n a=1\n\n");
        due("its place is behind the TOKEN ahead", y.wrong(0, 1), 2);
        due("its LINE", y.wrong(0, 2), 0);
        due("TOKENS ahead", y.wrong(0, 3), 2);
        due("its place", y.wrong(1, 1), 11);
        due("its LINE", y.wrong(1, 2), 2);
        due("TOKENS ahead", y.wrong(1, 3), 6);
    }

    // Promises 34, 35, 36, 37
    private static void dirtyAndLost() {
        KeptTree x = Texts.of("a=1;b=2;c=3;");
        Texts.edit(x, 2, 10, "7;bb=2;c=");
        // a = | 7 ; bb = 2 ; c = | 3 ;
        due("dirty(0)", x.dirty(0), 2);
        due("dirty(1)", x.dirty(1), 9);
        due("dirty(2)", x.dirty(2), 8);
        due("dirty(3)", x.dirty(3), 8);
        due("dirty(4)", x.dirty(4), NONE);
        due("dirty(-1)", x.dirty(-1), NONE);
        // KEPT NODES: a = 3 ;
        due("count(7)", x.count(7), 4);
        due("whole", x.whole(), 4);
        due("greatest(0)", x.greatest(0), 4);
        due("greatest(1)", x.greatest(1), 1);
        due("greatest(2)", x.greatest(2), NONE);
        due("greatest(-1)", x.greatest(-1), NONE);
        due("lost(12)", x.lost(12), 2);
        due("lost(13)", x.lost(13), 2);
        due("lost(16)", x.lost(16), 4);
        due("lost(2)", x.lost(2), 3);
        due("lost(1)", x.lost(1), 2);
        due("lost(0)", x.lost(0), 1);
        due("lost(5)", x.lost(5), 0);
        due("lost(-1)", x.lost(-1), NONE);
        due("lost(18)", x.lost(18), NONE);
        KeptTree y = Texts.of("a=1;b=2; c=3;");
        due("edit", y.edit(8, 8, 0), 17);
        due("nothing is DIRTY", y.dirty(0), -2);
        due("nothing is DIRTY", y.dirty(1), -2);
        due("nothing is DIRTY", y.dirty(2) + y.dirty(3), 0);
        due("whole", y.whole(), 1);
        due("greatest(0)", y.greatest(0), 1);
        due("greatest(1)", y.greatest(1), 12);
        due("lost FILE alone", y.lost(0), 1);
        KeptTree z = Texts.of("a=1;b=2;");
        Texts.edit(z, 4, 5, "c");
        // KEPT: the first SET with its four, = 2 ; of the other one
        due("whole", z.whole(), 4);
        due("greatest(0)", z.greatest(0), 2);
        due("greatest(1)", z.greatest(1), 4);
        KeptTree w = Texts.of("a=1;");
        due("greatest behind load", w.greatest(0), -2);
        due("greatest behind load", w.greatest(1), -2);
        due("whole behind load", w.whole(), 0);
        Texts.load(w, "b;");
        due("LOST behind load", w.lost(2), 1);
        due("LOST behind load", w.lost(16), 2);
        KeptTree v = Texts.of("a b c");
        Texts.edit(v, 2, 2, " ");
        // a: its READ is byte 1; b and c moved on by one
        due("dirty(2)", v.dirty(2), 0);
        Texts.edit(v, 1, 1, " ");
        due("a reads byte 1", v.dirty(0), 0);
        due("a reads byte 1", v.dirty(1), 0);
    }

    // Promise 38
    private static void sharing() {
        KeptTree x = Texts.of("a=1;");
        due("share", x.share(), -2);
        due("edit", Texts.edit(x, 4, 4, ";"), 5);
        // 5 of 8
        due("share", x.share(), 62);
        x.undo();
        due("those undone, too", x.share(), 62);
        x.redo();
        due("redo counts for nothing", x.share(), 62);
        due("drop", x.drop(x.find(8, 0)), 1);
        // 10 of 14
        due("share", x.share(), 71);
        due("refused", x.drop(0), NONE);
        due("share", x.share(), 71);
        Texts.load(x, "a");
        due("behind load", x.share(), -2);
        due("wrap", x.wrap(1), 0);
        // 0 of 5
        due("share", x.share(), 0);
    }

    // Promises 39, 40
    private static void namesAndUses() {
        KeptTree x = Texts.of("b=a;a=b+ab;c d f(a);while=if");
        // NAMES b a a b ab f a; c, d are ERRORS
        due("names(-1)", x.names(-1), 4);
        due("names(0)", x.names(0), x.find(12, 0));
        due("names(1)", x.names(1), x.find(12, 1));
        due("names(2)", x.names(2), x.find(12, 4));
        due("names(3)", x.names(3), x.find(12, 5));
        due("names(4)", x.names(4), -2);
        due("names(MAX)", x.names(FAR), -2);
        due("names(-2)", x.names(-2), NONE);
        due("names(MIN)", x.names(LOW), NONE);
        due("uses b", x.uses(x.names(0)), 2);
        due("uses a", x.uses(x.find(12, 2)), 3);
        due("uses ab", x.uses(x.names(2)), 1);
        due("no NAME", x.uses(x.find(9, 0)), NONE);
        due("no NAME", x.uses(0), NONE);
        due("no NODE", x.uses(-1), NONE);
        due("no NODE", x.uses(FAR), NONE);
    }

    private static long valueOf(String expression) {
        KeptTree x = Texts.of("a=" + expression + ";");
        return x.value(4);
    }

    // Promise 41
    private static void values() {
        due("7", valueOf("7"), 7);
        due("nine digits", valueOf("999999999"), 999999999);
        due("the last nine", valueOf("1234567890"), 234567890);
        due("the last nine", valueOf("99000000007"), 7);
        due("NAME", valueOf("b"), 0);
        due("STRING", valueOf("'b c'"), 3);
        due("STRING", valueOf("''"), 0);
        due("MISSING", valueOf(""), 0);
        due("BRACKET", valueOf("(1+2)*3"), 9);
        due("BRACKET", valueOf("()"), 0);
        due("SUM", valueOf("1+2*3-4"), 3);
        due("from the left", valueOf("10-3-2"), 5);
        due("from the left", valueOf("100/7/2"), 7);
        due("cut to 0", valueOf("(0-7)/2"), -3);
        due("by 0", valueOf("7/0"), 0);
        due("by a NAME", valueOf("7/b+1"), 1);
        due("a sign alone", valueOf("-5"), -5);
        due("a sign alone", valueOf("*5"), 0);
        long nines = 999999999L;
        due("64 bits", valueOf("999999999*999999999*999999999"), nines * nines * nines);
        // 2^63 goes round to Long.MIN_VALUE; divided by -1 it stays
        due("round", valueOf("2147483648*4294967296"), 147483648L * 294967296L);
        due("2^63", valueOf(times("128*", 8) + "128"), Long.MIN_VALUE);
        due("2^63 by -1", valueOf(times("128*", 8) + "128/(0-1)"), Long.MIN_VALUE);
        due("2^63 - 1", valueOf(times("128*", 8) + "128-1"), Long.MAX_VALUE);
        KeptTree x = Texts.of(TWO);
        for (int other : new int[] {0, 1, 2, 4, 7, 13, 16, 20, -1, 22, FAR, LOW}) {
            due("value(" + other + ")", x.value(other), Long.MIN_VALUE);
        }
        due("NAME of a SET", x.value(3), 0);
        KeptTree y = Texts.of("b f(");
        due("ERROR", y.value(y.find(9, 0)), Long.MIN_VALUE);
        due("MISSING of a sign", y.value(y.find(17, 2)), 0);
        due("a long one", valueOf("1" + times("+1", 140)), 141);
    }

    // Promises 42, 43
    private static void toldAndItems() {
        KeptTree x = Texts.of("a=1;a=a;{b=a;a=2}if b a=a;");
        int[] sets = {x.find(2, 0), x.find(2, 1), x.find(2, 2), x.find(2, 3), x.find(2, 4)};
        // NAMES a | a a | b a | a | b | a a
        int[] want = {-2, sets[0], sets[0], -2, sets[1], sets[1], sets[2], sets[3], sets[3]};
        for (int k = 0; k < want.length; k++) {
            due("told of NAME " + k, x.told(x.find(12, k)), want[k]);
        }
        due("told(0)", x.told(0), NONE);
        due("told(-1)", x.told(-1), NONE);
        due("told(MAX)", x.told(FAR), NONE);
        KeptTree y = Texts.of("a=1 a=2");
        due("a SET without ; ends with its last TOKEN", y.told(y.find(12, 1)), y.find(2, 0));
        // ITEMS: SET SET BLOCK SET SET IF SET
        due("item(-1, 0)", x.item(-1, 0), 7);
        due("item(-1, -9)", x.item(-1, -9), 7);
        due("item(2, 0)", x.item(2, 0), x.find(5, 0));
        due("item(2, 1)", x.item(2, 1), 0);
        due("item(3, 1)", x.item(3, 1), 1);
        due("item(3, 2)", x.item(3, 2), 0);
        due("item(5, 2)", x.item(5, 2), 0);
        due("item(6, 0)", x.item(6, 0), sets[4]);
        due("item(6, 2)", x.item(6, 2), 1);
        due("item(7, 0)", x.item(7, 0), -2);
        due("item(0, 3)", x.item(0, 3), NONE);
        due("item(0, -1)", x.item(0, -1), NONE);
        due("item(-2, 0)", x.item(-2, 0), NONE);
        due("NONE ahead of -2", x.item(7, 3), NONE);
        KeptTree z = Texts.of("{while a {if b ; else c}}");
        // BLOCK WHILE BLOCK IF EMPTY ERROR
        int[] blocks = {0, 1, 1, 2, 2, 2};
        int[] branches = {0, 0, 1, 1, 2, 2};
        due("item(-1, 0)", z.item(-1, 0), 6);
        for (int k = 0; k < 6; k++) {
            due("item(" + k + ", 1)", z.item(k, 1), blocks[k]);
            due("item(" + k + ", 2)", z.item(k, 2), branches[k]);
        }
    }

    // Promise 44
    private static void steps() {
        KeptTree x = Texts.of(TWO);
        due("far(0, 0)", x.far(0, 0), 0);
        due("far(0, 11)", x.far(0, 11), 5);
        due("far(11, 0)", x.far(11, 0), 5);
        due("far(9, 11)", x.far(9, 11), 2);
        due("far(6, 11)", x.far(6, 11), 3);
        due("far(11, 19)", x.far(11, 19), 7);
        due("far(-1, 0)", x.far(-1, 0), NONE);
        due("far(0, 22)", x.far(0, 22), NONE);
    }

    // A call that is refused changes nothing.
    private static void refusedChangesNothing() {
        KeptTree x = Texts.of(times(";", 296) + "a=b;");
        Texts.edit(x, 0, 1, ";");
        Texts.tape(x, "while");
        int kept = x.count(7);
        int share = x.share();
        due("edit", x.edit(0, 0, 1), -2);
        due("edit", x.edit(0, 301, 1), NONE);
        due("rename", x.rename(x.find(12, 0), 5), -2);
        due("drop", x.drop(0), NONE);
        due("wrap", x.wrap(x.find(8, 0)), -2);
        due("swap", x.swap(0, 0), NONE);
        due("copy", x.copy(x.find(2, 0), x.find(8, 0)), -2);
        due("unwrap", x.unwrap(0), NONE);
        due("mend", x.mend(), NONE);
        due("redo", x.redo(), NONE);
        due("load", x.load(21), NONE);
        due("kept", x.count(7), kept);
        due("share", x.share(), share);
        due("acts", x.count(9), 2);
        due("tape", x.count(8), 20);
        due("dirty", x.dirty(2), 1);
        dueText("refused", x, times(";", 296) + "a=b;");
    }

    // The most nodes, the deepest tree.
    private static void longTexts() {
        KeptTree x = Texts.of(times("a(}", 100));
        // CALL NAME ( LIST MISSING MISSING MISSING, ERROR: 200 ITEMS, 199 REPEATS, FILE
        due("nodes", x.count(2), 100 * 8 + 199 + 1);
        due("mend", x.mend(), -2);
        KeptTree y = Texts.of("a=" + times("+", 298));
        due("deepest", y.count(5), 2 + 298 + 1);
        due("nodes", y.count(2), 4 + 1 + 3 * 298 + 1);
        due("value", y.value(4), 0);
        due("far", y.far(4, y.count(2) - 1), 2);
        due("find MISSING", y.find(17, -1), 300);
        KeptTree z = Texts.of(times("{", 10) + times("a(=", 96));
        due("nodes", z.count(2), 1 + 10 * 3 + 96 * 8 + 191);
        KeptTree w = Texts.of(times(";", 300));
        due("nodes", w.count(2), 1 + 300 + 299);
        due("deepest", w.count(5), 1 + 9 + 1);
    }
}
