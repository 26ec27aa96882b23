import java.util.ArrayList;
import java.util.List;

/** Each sentence of the document's 'Terms' that names a boundary, with a test of its own. */
public final class TermsEdgeTest {
    private static final int NONE = KeptTree.NONE;
    private static final String MARKS = "=(){};,+-*/";
    private static final Checks CHECKS = new Checks();

    private TermsEdgeTest() {
    }

    public static void main(String[] args) {
        textHoldsThreeHundred();
        textHoldsThreeHundredBehindActs();
        linesEndWithTen();
        lastLineEndsAtTheEnd();
        tokensOfOneByte();
        tokensAsLongAsCanBe();
        stringsWithinTheirLine();
        noTokens();
        readOfItsBytes();
        readOfTheByteBehind();
        readOfAStrayQuote();
        repeatsOfEachLength();
        repeatsWithinBlocks();
        itemsByFirstToken();
        wordsByEachLetter();
        blocksUpToTheEnd();
        bodiesThatAreMissing();
        signsThatAreMissing();
        listsThatAreNone();
        nestTenOfItems();
        nestTenOfBrackets();
        nestIsLeft();
        fileHasAllBytes();
        placesWithoutTokens();
        keptAheadOfA();
        keptFromBOn();
        keptByTheLastEdit();
        keptBySortAndLength();
        nodesKeptBySort();
        nodesKeptByJustTheseTokens();
        neverKept();
        dirtyAreTheOthers();
        lostOfASort();
        behindLoadUndoRedo();
        twelveActsAreKept();
        twelveOfEachAct();
        doneAgainTillTheNextAct();
        CHECKS.end("TermsEdgeTest");
    }

    private static void due(String what, long got, long want) {
        CHECKS.due(what, got, want);
    }

    private static void dueText(String what, KeptTree x, String want) {
        String got = Texts.text(x);
        due(what + " left [" + got + "] where [" + want + "] is due", got.equals(want) ? 1 : 0, 1);
    }

    private static void dueToken(KeptTree x, int token, int sort, int first, int many, int read) {
        String of = "token " + token + " of [" + Texts.text(x) + "]: ";
        due(of + "sort", x.token(token, 0), sort);
        due(of + "first", x.token(token, 1), first);
        due(of + "many", x.token(token, 2), many);
        due(of + "read", x.token(token, 3), read);
    }

    /** The sorts of all tokens have to be those. */
    private static void dueTokens(String text, int... sorts) {
        KeptTree x = Texts.of(text);
        due("tokens of [" + text + "]", x.count(1), sorts.length);
        for (int i = 0; i < sorts.length; i++) {
            due("token " + i + " of [" + text + "]", x.token(i, 0), sorts[i]);
        }
    }

    /** The sorts of all nodes in their order have to be those. */
    private static void dueSorts(String text, int... sorts) {
        KeptTree x = Texts.of(text);
        due("nodes of [" + text + "]", x.count(2), sorts.length);
        for (int i = 0; i < sorts.length; i++) {
            due("node " + i + " of [" + text + "]", x.node(i, 0), sorts[i]);
        }
    }

    private static int find(KeptTree x, int sort) {
        return x.find(sort, 0);
    }

    // ==== 1. the text

    // "A TEXT is at most 300 bytes."
    private static void textHoldsThreeHundred() {
        KeptTree x = Texts.of(";".repeat(300));
        due("300 bytes by load", x.count(0), 300);
        due("the last one", x.octet(299), ';');
        due("none behind it", x.octet(300), NONE);
        due("300 tokens", x.count(1), 300);
        due("301 by edit at the end", Texts.edit(x, 300, 300, ";"), -2);
        due("301 by edit, one for two (the tape stayed)", x.edit(0, 19, 20), -2);
        due("300 by edit, twenty for twenty", x.edit(0, 20, 20) >= 0 ? 1 : 0, 1);
        due("300 bytes stand", x.count(0), 300);
        KeptTree y = Texts.of(";".repeat(299));
        due("300 by edit", Texts.edit(y, 299, 299, "?") >= 0 ? 1 : 0, 1);
        due("300 bytes", y.count(0), 300);
        due("the last one", y.octet(299), '?');
        KeptTree z = new KeptTree();
        due("300 by edit of nothing", Texts.edit(z, 0, 0, "7".repeat(300)), 0);
        due("300 bytes", z.count(0), 300);
        due("all 300 go", z.edit(0, 300, 0), 0);
        due("none is left", z.count(0), 0);
        due("all of 300 for 300 others", Texts.edit(z, 0, 0, "a".repeat(300)), 0);
        due("all of 300 for 300 others", Texts.edit(z, 0, 300, "b".repeat(300)), 0);
        due("others", z.octet(299), 'b');
    }

    // "-2: the TEXT would be above 300", of each ACT that can make it longer
    private static void textHoldsThreeHundredBehindActs() {
        due("rename to 300", Texts.rename(Texts.of("a=a;" + " ".repeat(294)), 2, "bc"), 2);
        due("rename to 301", Texts.rename(Texts.of("a=a;" + " ".repeat(295)), 2, "bc"), -2);
        due("rename to 302", Texts.rename(Texts.of("a=a;" + " ".repeat(296)), 2, "bc"), -2);
        due("rename at 300 to as many", Texts.rename(Texts.of("a=a;" + " ".repeat(296)), 2, "b"), 2);
        due("rename at 300 to fewer", Texts.rename(Texts.of("ab=ab;" + " ".repeat(294)), 2, "b"), 2);
        due("wrap to 300", Texts.of(";" + " ".repeat(297)).wrap(1), 0);
        due("wrap to 301", Texts.of(";" + " ".repeat(298)).wrap(1), -2);
        due("wrap to 302", Texts.of(";" + " ".repeat(299)).wrap(1), -2);
        due("copy to 300", Texts.of("a=1;" + " ".repeat(292)).copy(1, 1), 5);
        due("copy to 301", Texts.of("a=1;" + " ".repeat(293)).copy(1, 1), -2);
        due("copy of all 150", Texts.of("b".repeat(148) + "=;").copy(1, 1), 4);
        due("copy of all 151", Texts.of("b".repeat(149) + "=;").copy(1, 1), -2);
        due("mend to 300", Texts.of("{" + " ".repeat(298)).mend(), 1);
        due("mend to 301", Texts.of("{" + " ".repeat(299)).mend(), -2);
        due("mend at 300: one comes, one goes", Texts.of("a=1 ?" + " ".repeat(295)).mend(), 2);
        due("mend at 300: one goes, one comes", Texts.of("? a=1" + " ".repeat(295)).mend(), 2);
        due("mend at 300: one goes, two come", Texts.of("? f(" + " ".repeat(296)).mend(), -2);
        due("mend at 300: two come, one goes", Texts.of("f( ?" + " ".repeat(296)).mend(), -2);
        due("mend at 300: ERRORS go", Texts.of("?".repeat(300)).mend(), 300);
        due("drop at 300", Texts.of(" ".repeat(299) + ";").drop(1), 1);
        due("unwrap at 300", Texts.of("{" + " ".repeat(298) + "}").unwrap(1), 0);
        KeptTree x = Texts.of(";" + " ".repeat(298) + "?");
        due("swap at 300", x.swap(2, 3), 0);
        due("swap at 300", x.octet(0), '?');
        due("swap at 300", x.octet(299), ';');
    }

    // "LINES end with byte 10 (it is the LINE's)"
    private static void linesEndWithTen() {
        KeptTree x = Texts.of("ab\n\nc");
        due("lines", x.count(11), 3);
        due("byte 10 is of the LINE that it ends", x.line(2), 0);
        due("its column", x.column(2), 2);
        due("a LINE of byte 10 alone", x.line(3), 1);
        due("its column", x.column(3), 0);
        due("behind it the next one begins", x.begin(1), 3);
        due("behind it the next one begins", x.begin(2), 4);
        due("c", x.line(4), 2);
        KeptTree y = Texts.of("a\r\nb");
        due("byte 13 ends none", y.count(11), 2);
        due("byte 13 is a STRAY", y.token(1, 0), 4);
        due("byte 13 is of LINE 0", y.line(1), 0);
        KeptTree z = Texts.of("\n".repeat(300));
        due("301 LINES", z.count(11), 301);
        due("the last one begins at the end", z.begin(300), 300);
        due("there is no other", z.begin(301), NONE);
        due("the end is in the last one", z.line(300), 300);
        due("the last byte is in the one ahead", z.line(299), 299);
        due("blanks", z.blanks(300), 0);
        due("level", z.level(300), 0);
        due("begun", z.begun(300), 0);
        due("begun", z.begun(0), 1);
    }

    // "the last one at the end"
    private static void lastLineEndsAtTheEnd() {
        KeptTree x = new KeptTree();
        due("of an empty TEXT one", x.count(11), 1);
        due("it begins at 0", x.begin(0), 0);
        due("the end is in it", x.line(0), 0);
        KeptTree y = Texts.of("\n");
        due("behind a byte 10 at the end an empty one", y.count(11), 2);
        due("it begins at the end", y.begin(1), 1);
        due("the end is in it", y.line(1), 1);
        due("at its column 0", y.column(1), 0);
        KeptTree z = Texts.of("a=1;");
        due("without byte 10 one", z.count(11), 1);
        due("the end is in it", z.line(4), 0);
        due("the end's column", z.column(4), 4);
    }

    // WORD, NUMBER, MARK, STRAY by each byte that there is
    private static void tokensOfOneByte() {
        for (int octet = 0; octet < 256; octet++) {
            KeptTree x = Texts.of(String.valueOf((char) octet));
            boolean none = octet == 32 || octet == 10 || octet == 35;
            due("byte " + octet, x.octet(0), octet);
            due("tokens of byte " + octet, x.count(1), none ? 0 : 1);
            due("tokenAt of byte " + octet, x.tokenAt(0), none ? -2 : 0);
            int sort = octet >= 'a' && octet <= 'z' ? 0 : octet >= '0' && octet <= '9' ? 1
                    : MARKS.indexOf(octet) >= 0 ? 3 : 4;
            due("sort of byte " + octet, x.token(0, 0), none ? NONE : sort);
            due("lines of byte " + octet, x.count(11), octet == 10 ? 2 : 1);
        }
    }

    // "as long as each can be"
    private static void tokensAsLongAsCanBe() {
        dueToken(Texts.of("z".repeat(200)), 0, 0, 0, 200, 200);
        KeptTree word = Texts.of("a".repeat(300));
        due("one WORD of 300", word.count(1), 1);
        due("one WORD of 300", word.token(0, 2), 300);
        due("its READ", word.token(0, 3), 300);
        KeptTree number = Texts.of("9".repeat(300));
        due("one NUMBER of 300", number.count(1), 1);
        due("one NUMBER of 300", number.token(0, 2), 300);
        KeptTree string = Texts.of("'" + "x".repeat(298) + "'");
        due("one STRING of 300", string.count(1), 1);
        due("one STRING of 300", string.token(0, 2), 300);
        due("its READ", string.token(0, 3), 299);
        dueTokens("ab12cd", 0, 1, 0);
        dueTokens("a b", 0, 0);
        dueTokens("1 2", 1, 1);
        dueTokens("aAb", 0, 4, 0);
        dueTokens("==", 3, 3);
        dueTokens("??", 4, 4);
        dueTokens("iffy", 0);
        dueTokens("az{", 0, 3);
        dueTokens("a`", 0, 4);
        dueTokens("09:", 1, 4);
    }

    // "STRING: a quote, the next quote of that LINE and all between"; "a quote without a next one in its LINE"
    private static void stringsWithinTheirLine() {
        dueTokens("''", 2);
        dueTokens("'''", 2, 4);
        dueTokens("''''", 2, 2);
        dueTokens("'a'b'c'", 2, 0, 2);
        dueTokens("'\n'", 4, 4);
        dueTokens("'a\n'b'", 4, 0, 2);
        dueTokens("'a'\n", 2);
        dueTokens("' '", 2);
        dueTokens("'#'", 2);
        dueTokens("'", 4);
        dueTokens("'a", 4, 0);
        dueTokens("a'", 0, 4);
        dueTokens("'\u00ff\u0000'", 2);
        dueToken(Texts.of("x''y"), 1, 2, 1, 2, 2);
    }

    // "No TOKENS: blanks, bytes 10, a # and all behind it in its LINE (but byte 10)"
    private static void noTokens() {
        dueTokens("");
        dueTokens(" ".repeat(300));
        dueTokens("\n".repeat(10));
        dueTokens("#");
        dueTokens("#;;;");
        dueTokens("#;;;\n;", 3);
        dueTokens("#\n;", 3);
        dueTokens(";#;\n#;\n;", 3, 3);
        dueTokens("##'\n'", 4);
        dueTokens("'a #'b", 2, 0);
        dueTokens("' #'", 2);
        dueTokens("#" + "a".repeat(299));
        KeptTree x = Texts.of("a#b\nc");
        due("#", x.tokenAt(1), -2);
        due("behind #", x.tokenAt(2), -2);
        due("byte 10", x.tokenAt(3), -2);
        due("the next LINE", x.tokenAt(4), 1);
    }

    // "READ of a TOKEN: its bytes"
    private static void readOfItsBytes() {
        dueToken(Texts.of("'a'b"), 0, 2, 0, 3, 2);
        dueToken(Texts.of("''"), 0, 2, 0, 2, 1);
        dueToken(Texts.of(";a"), 0, 3, 0, 1, 0);
        dueToken(Texts.of("a;"), 1, 3, 1, 1, 1);
        dueToken(Texts.of("?\n"), 0, 4, 0, 1, 0);
        dueToken(Texts.of("a \u00ff"), 1, 4, 2, 1, 2);
    }

    // "of a WORD, a NUMBER also the byte behind it (where there is no byte, the end counts as one ..)"
    private static void readOfTheByteBehind() {
        dueToken(Texts.of("a"), 0, 0, 0, 1, 1);
        dueToken(Texts.of("abc"), 0, 0, 0, 3, 3);
        dueToken(Texts.of("abc;"), 0, 0, 0, 3, 3);
        dueToken(Texts.of("abc\n"), 0, 0, 0, 3, 3);
        dueToken(Texts.of("abc  "), 0, 0, 0, 3, 3);
        dueToken(Texts.of("7"), 0, 1, 0, 1, 1);
        dueToken(Texts.of(" 70"), 0, 1, 1, 2, 3);
        dueToken(Texts.of("7a"), 0, 1, 0, 1, 1);
        dueToken(Texts.of("7a"), 1, 0, 1, 1, 2);
    }

    // "of a quote that is a STRAY all up to its byte 10, that one, too (.. the end counts as one ..)"
    private static void readOfAStrayQuote() {
        dueToken(Texts.of("'"), 0, 4, 0, 1, 1);
        dueToken(Texts.of("'\n"), 0, 4, 0, 1, 1);
        dueToken(Texts.of("'ab"), 0, 4, 0, 1, 3);
        dueToken(Texts.of("'ab\ncd"), 0, 4, 0, 1, 3);
        dueToken(Texts.of("a\n b ' c # d\n'"), 2, 4, 5, 1, 12);
        dueToken(Texts.of("a\n b ' c # d\n'"), 4, 4, 13, 1, 14);
        dueToken(Texts.of("''' "), 1, 4, 2, 1, 4);
        KeptTree x = Texts.of("'" + " ".repeat(299));
        due("to the end of 300", x.token(0, 3), 300);
    }

    // ==== 2. the tree

    private static void repeatTokens(int items, List<Integer> tokens) {
        tokens.add(items);
        if (items > 1) {
            int first = 1;
            while (first * 2 < items) {
                first *= 2;
            }
            repeatTokens(first, tokens);
            repeatTokens(items - first, tokens);
        }
    }

    // "the first one the ITEMS of the greatest power of two that is less than how many there are"
    private static void repeatsOfEachLength() {
        for (int items = 1; items <= 300; items += items < 40 || items % 32 > 29 || items % 32 < 2 ? 1 : 7) {
            List<Integer> tokens = new ArrayList<>();
            repeatTokens(items, tokens);
            KeptTree x = Texts.of(";".repeat(items));
            due(items + " ITEMS: nodes", x.count(2), 2L * items);
            due(items + " ITEMS: REPEATS", x.find(1, NONE), items - 1);
            for (int i = 0; i < tokens.size(); i++) {
                if (i % 400 == 399) {
                    x = Texts.of(";".repeat(items));
                }
                due(items + " ITEMS: tokens of node " + (i + 1), x.node(i + 1, 10), tokens.get(i));
            }
        }
    }

    // "if there are more than one", "of none there is nothing", also in a BLOCK
    private static void repeatsWithinBlocks() {
        dueSorts("", 0);
        dueSorts(" \n#\n", 0);
        dueSorts(";", 0, 8);
        dueSorts(";;", 0, 1, 8, 8);
        dueSorts("{}", 0, 5, 16, 16);
        dueSorts("{;}", 0, 5, 16, 8, 16);
        dueSorts("{;;}", 0, 5, 16, 1, 8, 8, 16);
        dueSorts("{;;;}", 0, 5, 16, 1, 1, 8, 8, 8, 16);
        dueSorts(";{;;}", 0, 1, 8, 5, 16, 1, 8, 8, 16);
    }

    // "An ITEM, by its first TOKEN", "All else: ERROR of that one TOKEN"
    private static void itemsByFirstToken() {
        for (String one : new String[] {"a", "else", "7", "'x'", "'", "=", "(", ")", "}", ",", "+", "-", "*", "/", "?"}) {
            dueSorts(one, 0, 9);
        }
        dueSorts("a;", 0, 1, 9, 8);
        dueSorts("a b", 0, 1, 9, 9);
        dueSorts("else=", 0, 1, 9, 9);
        dueSorts("else(", 0, 1, 9, 9);
        dueSorts("a=", 0, 2, 12, 16, 17, 17);
        dueSorts("a(", 0, 3, 12, 16, 4, 17, 17, 17);
        dueSorts("if=", 0, 1, 6, 16, 17, 17, 9);
        dueSorts("while=", 0, 1, 7, 16, 17, 17, 9);
        dueSorts("if(", 0, 6, 16, 15, 16, 17, 17, 17);
        dueSorts("iff=", 0, 2, 12, 16, 17, 17);
        dueSorts("i f=", 0, 1, 9, 2, 12, 16, 17, 17);
        dueSorts("a\n=", 0, 2, 12, 16, 17, 17);
    }

    // "if, while (WORDS)", "but else": no word that is one letter off
    private static void wordsByEachLetter() {
        for (String word : new String[] {"if", "while", "else"}) {
            for (int i = 0; i < word.length(); i++) {
                for (char letter : new char[] {'a', 'x', 'z'}) {
                    String other = word.substring(0, i) + letter + word.substring(i + 1);
                    dueSorts(other + "=" + other + ";", 0, 2, 12, 16, 12, 16);
                    due("rename to " + other, Texts.rename(Texts.of("b=b;"), 2, other), 2);
                }
            }
            dueSorts(word + "e=" + word + "e;", 0, 2, 12, 16, 12, 16);
            dueSorts("e" + word + "=e" + word + ";", 0, 2, 12, 16, 12, 16);
            String less = word.substring(1);
            dueSorts(less + "=" + less + ";", 0, 2, 12, 16, 12, 16);
        }
    }

    // "ITEMS up to the next } that no BLOCK within takes, or up to the end"
    private static void blocksUpToTheEnd() {
        dueSorts("{", 0, 5, 16, 17);
        dueSorts("{;", 0, 5, 16, 8, 17);
        dueSorts("{{}", 0, 5, 16, 5, 16, 16, 17);
        dueSorts("{{}}", 0, 5, 16, 5, 16, 16, 16);
        dueSorts("{{}}}", 0, 1, 5, 16, 5, 16, 16, 16, 9);
        dueSorts("{a=}", 0, 5, 16, 2, 12, 16, 17, 17, 16);
        dueSorts("{f(}", 0, 5, 16, 3, 12, 16, 4, 17, 17, 17, 16);
        dueSorts("{if}", 0, 5, 16, 6, 16, 17, 17, 16);
        dueSorts("{while a {}", 0, 5, 16, 7, 16, 12, 5, 16, 16, 17);
    }

    // "A BODY: an ITEM, if the next TOKEN is a WORD but else, or { or ; - else MISSING"
    private static void bodiesThatAreMissing() {
        dueSorts("while a", 0, 7, 16, 12, 17);
        dueSorts("while a 7", 0, 1, 7, 16, 12, 17, 9);
        dueSorts("while a else", 0, 1, 7, 16, 12, 17, 9);
        dueSorts("while a )", 0, 1, 7, 16, 12, 17, 9);
        dueSorts("while a 'x'", 0, 1, 7, 16, 12, 17, 9);
        dueSorts("while a x", 0, 7, 16, 12, 9);
        dueSorts("while a ;", 0, 7, 16, 12, 8);
        dueSorts("while a {", 0, 7, 16, 12, 5, 16, 17);
        dueSorts("if a else", 0, 6, 16, 12, 17, 16, 17);
        dueSorts("if a ; else else", 0, 1, 6, 16, 12, 8, 16, 17, 9);
        dueSorts("if a ; else }", 0, 1, 6, 16, 12, 8, 16, 17, 9);
        dueSorts("if a ; ; else", 0, 1, 1, 6, 16, 12, 8, 8, 9);
    }

    // "Of a sign ) ; } above: MARK, if it is the next TOKEN, else MISSING"
    private static void signsThatAreMissing() {
        dueSorts("a=1", 0, 2, 12, 16, 13, 17);
        dueSorts("a=1;", 0, 2, 12, 16, 13, 16);
        dueSorts("f()", 0, 3, 12, 16, 16, 17);
        dueSorts("f(1;", 0, 3, 12, 16, 4, 13, 17, 16);
        dueSorts("f(1", 0, 3, 12, 16, 4, 13, 17, 17);
        dueSorts("a=(1;", 0, 2, 12, 16, 15, 16, 13, 17, 16);
        dueSorts("a=1 2;", 0, 1, 1, 2, 12, 16, 13, 17, 9, 8);
    }

    // "LIST: there is none, if ) is next"
    private static void listsThatAreNone() {
        dueSorts("f();", 0, 3, 12, 16, 16, 16);
        dueSorts("f(,", 0, 3, 12, 16, 4, 17, 16, 17, 17, 17);
        dueSorts("f(a,)", 0, 3, 12, 16, 4, 12, 16, 17, 16, 17);
        dueSorts("f({", 0, 1, 3, 12, 16, 4, 17, 17, 17, 5, 16, 17);
        KeptTree x = Texts.of("f(" + "1,".repeat(148) + ");");
        due("the longest LIST's children", x.node(find(x, 4), 4), 297);
        due("its last child is MISSING", x.node(x.child(find(x, 4), 296), 0), 17);
        due("it has not one more", x.child(find(x, 4), 297), -2);
    }

    // "At NEST 10 {, if, while where an ITEM begins are ERROR"
    private static void nestTenOfItems() {
        String[] around = {"{", "if a ", "while a "};
        int[] sorts = {5, 6, 7};
        for (int i = 0; i < 3; i++) {
            for (int k = 0; k < 3; k++) {
                String next = around[k].trim();
                KeptTree nine = Texts.of(around[i].repeat(9) + next);
                due("at NEST 9 " + next + " is no ERROR", nine.find(9, NONE), 0);
                due("at NEST 9 " + next, nine.node(nine.find(sorts[k], i == k ? 9 : 0), 0), sorts[k]);
                KeptTree ten = Texts.of(around[i].repeat(10) + around[k].substring(0, next.length() > 1 ? next.indexOf(' ') : 1));
                due("at NEST 10 of " + sorts[i] + ": as many", ten.find(sorts[i], NONE), 10);
                due("at NEST 10 of " + sorts[i] + ": no " + next, ten.find(sorts[k], NONE), i == k ? 10 : 0);
                due("at NEST 10 of " + sorts[i] + ": ERROR", ten.find(9, NONE), 1);
                due("within the tenth one", ten.node(find(ten, 9), 3), ten.find(sorts[i], 9));
            }
        }
        // { } within BLOCKS: what is no BLOCK takes no }
        KeptTree shut = Texts.of("{".repeat(11) + "}".repeat(10));
        due("the } are the BLOCKS'", shut.find(17, NONE), 0);
        due("{ is an ERROR", shut.find(9, NONE), 1);
        KeptTree other = Texts.of("{".repeat(10) + "a=1;f();;");
        due("other ITEMS at NEST 10", other.find(9, NONE), 0);
        due("other ITEMS at NEST 10", other.item(NONE, 0), 13);
    }

    // "( where a PART begins is MISSING"
    private static void nestTenOfBrackets() {
        KeptTree ten = Texts.of("a=" + "(".repeat(10) + "1");
        due("ten BRACKETS", ten.find(15, NONE), 10);
        due("no ERROR", ten.find(9, NONE), 0);
        due("1 is a NUMBER", ten.find(13, NONE), 1);
        KeptTree eleven = Texts.of("a=" + "(".repeat(11));
        due("ten BRACKETS", eleven.find(15, NONE), 10);
        due("( is an ERROR behind them", eleven.find(9, NONE), 1);
        // of the PART, of ten ) and of ;
        due("MISSING", eleven.find(17, NONE), 12);
        KeptTree mixed = Texts.of("{".repeat(9) + "a=(1);");
        due("at NEST 9 a BRACKET", mixed.find(15, NONE), 1);
        KeptTree full = Texts.of("{".repeat(10) + "a=(1);");
        due("at NEST 10 none", full.find(15, NONE), 0);
        KeptTree branch = Texts.of("while a ".repeat(9) + "if (a) ;");
        // the EXPRESSION of the tenth one is within it
        due("in an IF at NEST 9 none", branch.find(15, NONE), 0);
        KeptTree call = Texts.of("{".repeat(10) + "f(a,b);");
        due("a CALL's ( is no PART", call.find(3, NONE), 1);
        due("a CALL's LIST", call.find(4, NONE), 1);
        due("no ERROR", call.find(9, NONE), 0);
        KeptTree calls = Texts.of("f(" + "(".repeat(10) + "1");
        due("CALL, LIST do not count", calls.find(15, NONE), 10);
        KeptTree sums = Texts.of("a=" + "1+(2*".repeat(10) + "3");
        due("SUM, PRODUCT do not count", sums.find(15, NONE), 10);
    }

    // NEST is of those that one is within, not of those ahead
    private static void nestIsLeft() {
        KeptTree x = Texts.of("{".repeat(10) + "}".repeat(10) + "{}");
        due("behind them NEST is 0", x.find(5, NONE), 11);
        due("no ERROR", x.find(9, NONE), 0);
        KeptTree y = Texts.of("a=" + "(".repeat(10) + ")".repeat(10) + "+(1)");
        due("behind BRACKETS", y.find(15, NONE), 11);
        KeptTree z = Texts.of("{".repeat(10) + "}{}");
        due("behind the tenth one NEST is 9", z.find(5, NONE), 11);
        KeptTree w = Texts.of("if a ; else ".repeat(10) + "{");
        due("IF within IF by else", w.find(6, NONE), 10);
        due("{ at NEST 10", w.find(9, NONE), 1);
    }

    // "FILE has all bytes; another NODE those from its first TOKEN's first to its last TOKEN's last"
    private static void fileHasAllBytes() {
        KeptTree x = Texts.of("  ; #;\n");
        due("FILE begins at 0", x.node(0, 1), 0);
        due("FILE ends at the end", x.node(0, 2), 7);
        due("EMPTY", x.node(1, 1), 2);
        due("EMPTY", x.node(1, 2), 3);
        KeptTree y = Texts.of("   ");
        due("FILE without TOKENS begins at 0", y.node(0, 1), 0);
        due("FILE without TOKENS has all bytes", y.node(0, 2), 3);
        due("FILE without TOKENS: its first", y.node(0, 9), -2);
        due("a blank is FILE's alone", y.cover(0, 1), 0);
        due("all blanks are FILE's", y.cover(0, 3), 0);
        KeptTree z = Texts.of(" { ; } ");
        due("BLOCK", z.node(1, 1), 1);
        due("BLOCK", z.node(1, 2), 6);
        due("REPEAT's first", Texts.of(" ; ;").node(1, 1), 1);
        due("REPEAT's last", Texts.of(" ; ; ").node(1, 2), 4);
    }

    // "one without TOKENS has none, its place is behind the TOKEN ahead of it"
    private static void placesWithoutTokens() {
        KeptTree x = Texts.of(" f (  # c\n  ");
        // 1 CALL 2 NAME 3 ( 4 LIST 5 MISSING 6 MISSING 7 MISSING
        for (int node = 4; node <= 7; node++) {
            due("place of " + node, x.node(node, 1), 4);
            due("behind " + node, x.node(node, 2), 4);
            due("first TOKEN of " + node, x.node(node, 9), -2);
            due("TOKENS of " + node, x.node(node, 10), 0);
        }
        due("CALL ends with its last TOKEN", x.node(1, 2), 4);
        due("no byte is a MISSING's", x.cover(4, 5), 0);
        due("no byte is a MISSING's", x.cover(3, 4), 3);
        KeptTree y = Texts.of("a= +1;");
        // 1 SET 2 NAME 3 = 4 SUM 5 MISSING 6 + 7 NUMBER 8 ;
        due("MISSING ahead of +", y.node(5, 1), 2);
        due("SUM begins with +", y.node(4, 1), 3);
        due("SUM's first TOKEN", y.node(4, 9), 2);
        KeptTree z = Texts.of("a=1+ ;");
        due("MISSING behind +", z.node(7, 1), 4);
        due("SUM ends with +", z.node(4, 2), 4);
        KeptTree w = Texts.of("f(\n,\n)");
        // 4 LIST 5 MISSING 6 , 7 MISSING
        due("LIST of a MARK begins with it", w.node(4, 1), 3);
        due("the first MISSING", w.node(5, 1), 2);
        due("the second MISSING", w.node(7, 1), 4);
        KeptTree end = Texts.of(" ".repeat(298) + "a=");
        due("at the end of 300", end.node(4, 1), 300);
        due("its LINE", end.wrong(0, 2), 0);
    }

    // ==== 3. what is kept

    // "all of READ ahead of a"
    private static void keptAheadOfA() {
        KeptTree word = Texts.of("ab ;");
        Texts.edit(word, 2, 2, " ");
        due("a WORD with READ at a", word.token(0, 4), 0);
        word = Texts.of("ab ;");
        Texts.edit(word, 3, 3, " ");
        due("a WORD with READ one ahead of a", word.token(0, 4), 1);
        KeptTree number = Texts.of("12 ;");
        Texts.edit(number, 2, 3, "");
        due("a NUMBER with READ at a", number.token(0, 4), 0);
        number = Texts.of("12 ;");
        Texts.edit(number, 3, 4, "");
        due("a NUMBER with READ one ahead of a", number.token(0, 4), 1);
        KeptTree mark = Texts.of(";;");
        Texts.edit(mark, 1, 2, "?");
        due("a MARK with READ one ahead of a", mark.token(0, 4), 1);
        Texts.edit(mark, 0, 1, ";");
        due("a MARK at a", mark.token(0, 4), 0);
        KeptTree string = Texts.of("'a'b");
        Texts.edit(string, 3, 4, "c");
        due("a STRING with READ one ahead of a", string.token(0, 4), 1);
        Texts.edit(string, 2, 2, "x");
        due("a STRING with READ at a", string.token(0, 4), 0);
        KeptTree quote = Texts.of("'a\nb");
        Texts.edit(quote, 3, 4, "c");
        due("a quote with byte 10 one ahead of a", quote.token(0, 4), 1);
        Texts.edit(quote, 2, 2, " ");
        due("a quote with byte 10 at a", quote.token(0, 4), 0);
        KeptTree last = Texts.of("; '");
        Texts.edit(last, 3, 3, " ");
        due("a quote that read the end", last.token(1, 4), 0);
        due("what is ahead of it", last.token(0, 4), 1);
        last = Texts.of("; a");
        Texts.edit(last, 3, 3, " ");
        due("a WORD that read the end", last.token(1, 4), 0);
        last = Texts.of("a;");
        Texts.edit(last, 2, 2, ";");
        due("a WORD that did not", last.token(0, 4), 1);
        due("a MARK at the end", last.token(1, 4), 1);
        due("what came", last.token(2, 4), 0);
    }

    // "or its first byte at b or behind it, at that place (.. as many bytes on as came more than went)"
    private static void keptFromBOn() {
        KeptTree more = Texts.of(";ab;");
        Texts.edit(more, 0, 1, "???");
        due("the first byte at b, two more", more.token(3, 4), 1);
        due("behind it", more.token(4, 4), 1);
        KeptTree fewer = Texts.of("???ab;");
        Texts.edit(fewer, 0, 3, "");
        due("the first byte at b, three fewer", fewer.token(0, 4), 1);
        KeptTree same = Texts.of("?ab;");
        Texts.edit(same, 0, 1, "!");
        due("the first byte at b, as many", same.token(1, 4), 1);
        KeptTree cut = Texts.of("?ab;");
        Texts.edit(cut, 0, 2, "!");
        due("the first byte one ahead of b", cut.token(1, 4), 0);
        due("behind it", cut.token(2, 4), 1);
        KeptTree none = Texts.of("ab;");
        none.edit(0, 0, 0);
        due("an EDIT of nothing at its first byte", none.token(0, 4), 1);
        none.edit(1, 1, 0);
        due("an EDIT of nothing within it", none.token(0, 4), 0);
        due("behind it", none.token(1, 4), 1);
        none.edit(2, 2, 0);
        due("an EDIT of nothing behind it", none.token(0, 4), 0);
        none.edit(3, 3, 0);
        due("an EDIT of nothing at the end", none.count(6), 2);
        KeptTree all = Texts.of("ab;");
        Texts.edit(all, 0, 3, "ab;");
        due("an EDIT of all bytes, the same ones", all.count(6), 0);
        KeptTree hash = Texts.of("a;b;");
        Texts.edit(hash, 2, 2, "#");
        due("what is behind a # is none", hash.count(1), 2);
        due("what is ahead of it", hash.count(6), 2);
        Texts.edit(hash, 2, 3, "");
        due("it is none of those that there were", hash.count(6), 2);
        due("what came back is DIRTY", hash.dirty(0), 2);
    }

    // "there was one .. ahead of the EDIT": of the last EDIT, not of one before
    private static void keptByTheLastEdit() {
        KeptTree x = Texts.of(" ;");
        Texts.edit(x, 0, 2, "#;\n;");
        due("one", x.count(1), 1);
        Texts.edit(x, 0, 1, "");
        // ; LINE ; : ahead of this EDIT the first one was no TOKEN
        due("two", x.count(1), 2);
        due("there was none", x.token(0, 4), 0);
        due("there was one", x.token(1, 4), 1);
        KeptTree y = Texts.of("a=1;;");
        Texts.edit(y, 4, 5, "");
        due("SET", y.node(1, 8), 1);
        Texts.edit(y, 4, 4, ";");
        due("SET", y.node(2, 8), 1);
        due("a REPEAT that was there two EDITS ago", y.node(1, 8), 0);
        due("EMPTY that was there two EDITS ago", y.node(7, 8), 0);
        KeptTree z = Texts.of("; a =1;");
        Texts.edit(z, 4, 7, "");
        Texts.edit(z, 4, 4, "=1;");
        due("a was there", z.token(1, 4), 1);
        due("as an ERROR, a NAME it was two EDITS ago", z.node(z.token(1, 5), 8), 0);
    }

    // "if there was one of the same sort and as many bytes"
    private static void keptBySortAndLength() {
        KeptTree longer = Texts.of("a;");
        Texts.edit(longer, 0, 0, "b");
        due("ba was a, one byte on", longer.token(0, 4), 0);
        due("; is as it was", longer.token(1, 4), 1);
        KeptTree split = Texts.of(";abc;");
        Texts.edit(split, 2, 3, " ");
        due("c, where abc ended", split.token(2, 4), 0);
        due("a, where abc began", split.token(1, 4), 0);
        KeptTree sort = Texts.of("x'a' '");
        // ' a ' ' : the quotes go together in another way
        Texts.edit(sort, 0, 2, "");
        due("a STRING of others", sort.token(0, 0), 0);
        KeptTree stray = Texts.of("' ;\n");
        Texts.edit(stray, 3, 3, "'");
        due("one STRING now", stray.count(1), 1);
        due("of another sort", stray.token(0, 4), 0);
        KeptTree open = Texts.of("'b' ;");
        Texts.edit(open, 0, 1, "");
        due("b stands where there was none", open.token(0, 4), 0);
        due("' stands where there was none", open.token(1, 4), 0);
        // ' was a STRING's last byte; ; is as it was
        due("; is as it was", open.token(2, 4), 1);
    }

    // "and there was a NODE of the same sort"
    private static void nodesKeptBySort() {
        KeptTree x = Texts.of("a ");
        Texts.edit(x, 2, 2, "=1;");
        due("a is KEPT", x.token(0, 4), 1);
        due("but it was an ERROR and is a NAME", x.node(x.token(0, 5), 8), 0);
        due("ERROR is LOST", x.lost(9), 1);
        due("no NODE is KEPT", x.count(7), 0);
        due("a TOKEN is", x.count(6), 1);
        KeptTree y = Texts.of("f( ;");
        Texts.edit(y, 3, 3, ")");
        due("; was the CALL's MARK and is so", y.node(y.token(3, 5), 8), 1);
        KeptTree z = Texts.of("a=1 ;");
        Texts.edit(z, 4, 4, "+ ");
        due("; is a MARK still", z.node(z.token(4, 5), 8), 1);
        Texts.edit(z, 4, 4, ";");
        // a=1 ;+ ; : the last ; is EMPTY now
        due("; is KEPT as a TOKEN", z.token(5, 4), 1);
        due("but EMPTY, no MARK", z.node(z.token(5, 5), 8), 0);
    }

    // "of just these TOKENS"
    private static void nodesKeptByJustTheseTokens() {
        KeptTree less = Texts.of("f(1 , 2 );");
        Texts.edit(less, 4, 8, "");
        due("all TOKENS of LIST, CALL are KEPT", less.dirty(2), 0);
        due("but there were more in LIST", less.node(find(less, 4), 8), 0);
        due("and in CALL", less.node(find(less, 3), 8), 0);
        due("LIST is LOST", less.lost(4), 1);
        KeptTree more = Texts.of("{ }");
        Texts.edit(more, 1, 1, ";");
        due("{ } are KEPT", more.dirty(2), 1);
        due("but BLOCK has one more", more.node(find(more, 5), 8), 0);
        KeptTree same = Texts.of("{ } ;");
        Texts.edit(same, 2, 2, "  ");
        due("blanks within it", same.node(find(same, 5), 8), 1);
        due("REPEAT of both", same.node(1, 8), 1);
        KeptTree pairs = Texts.of(";;;;");
        due("one more at the end: REPEATS of 2, 2, 4 stay", Texts.edit(pairs, 4, 4, ";"), 4 + 3);
        due("none of them is LOST", pairs.lost(1), 0);
        due("one goes at the head: the other pairs go", Texts.edit(pairs, 0, 1, ""), 4);
        due("all REPEATS are LOST", pairs.lost(1), 4);
    }

    // "(never FILE, one without TOKENS)"
    private static void neverKept() {
        KeptTree x = Texts.of("f( ");
        due("an EDIT of nothing at the end", x.edit(3, 3, 0), 3);
        due("FILE", x.node(0, 8), 0);
        due("CALL", x.node(1, 8), 1);
        for (int node = 4; node <= 7; node++) {
            due("one without TOKENS", x.node(node, 8), 0);
        }
        due("FILE is LOST", x.lost(0), 1);
        due("LIST is LOST", x.lost(4), 1);
        due("MISSING are LOST", x.lost(17), 3);
        due("CALL is not", x.lost(3), 0);
        KeptTree empty = new KeptTree();
        due("an EDIT of nothing in nothing", empty.edit(0, 0, 0), 0);
        due("FILE", empty.node(0, 8), 0);
        due("FILE is LOST", empty.lost(0), 1);
    }

    // "DIRTY are TOKENS that are not KEPT"
    private static void dirtyAreTheOthers() {
        KeptTree x = Texts.of("a;b;c;");
        Texts.edit(x, 2, 3, "7");
        due("one", x.dirty(2), 1);
        due("it is", x.dirty(0), 2);
        due("it is", x.dirty(1), 2);
        x.edit(0, 0, 0);
        due("none", x.dirty(2), 0);
        due("none", x.dirty(0), -2);
        due("none", x.dirty(1), -2);
        due("none", x.dirty(3), 0);
        due("all are KEPT", x.count(6), 6);
        x.edit(0, 6, 0);
        due("of no TOKENS none", x.dirty(2), 0);
        due("of no TOKENS none is KEPT", x.count(6), 0);
    }

    // "LOST of a sort: how many NODES of it there were less those that are KEPT"
    private static void lostOfASort() {
        KeptTree x = Texts.of("a=1;b=2;;");
        x.edit(0, 9, 0);
        int[] lost = {1, 2, 2, 0, 0, 0, 0, 0, 1, 0, 0, 0, 2, 2, 0, 0, 4, 0};
        for (int sort = 0; sort < lost.length; sort++) {
            due("all went: LOST of " + sort, x.lost(sort), lost[sort]);
        }
        Texts.edit(x, 0, 0, "a=1;");
        for (int sort = 0; sort < lost.length; sort++) {
            due("of nothing: LOST of " + sort, x.lost(sort), sort == 0 ? 1 : 0);
        }
        x.edit(0, 0, 0);
        for (int sort = 0; sort < lost.length; sort++) {
            due("all stayed: LOST of " + sort, x.lost(sort), sort == 0 ? 1 : 0);
        }
    }

    private static void dueNothingKept(String behind, KeptTree x) {
        int tokens = x.count(1);
        due(behind + ": KEPT TOKENS", x.count(6), 0);
        due(behind + ": KEPT NODES", x.count(7), 0);
        due(behind + ": DIRTY", x.dirty(2), tokens);
        due(behind + ": DIRTY from", x.dirty(0), tokens == 0 ? -2 : 0);
        due(behind + ": DIRTY to", x.dirty(1), tokens == 0 ? -2 : tokens - 1);
        due(behind + ": greatest", x.greatest(0), -2);
        due(behind + ": whole", x.whole(), 0);
        for (int i = 0; i < tokens; i++) {
            due(behind + ": TOKEN " + i, x.token(i, 4), 0);
        }
        for (int i = 0; i < x.count(2); i++) {
            due(behind + ": NODE " + i, x.node(i, 8), 0);
        }
    }

    // "Behind load(), undo(), redo() nothing is KEPT, all is DIRTY, LOST."
    private static void behindLoadUndoRedo() {
        KeptTree x = Texts.of("a=1;");
        dueNothingKept("load", x);
        due("load of nothing: LOST FILE", x.lost(0), 1);
        due("load of nothing: LOST SET", x.lost(2), 0);
        Texts.load(x, "a=1;");
        dueNothingKept("load of the same", x);
        due("load: LOST SET", x.lost(2), 1);
        due("load: LOST MARKS", x.lost(16), 2);
        Texts.edit(x, 4, 4, ";;");
        due("ahead of undo some are KEPT", x.count(7), 5);
        due("undo", x.undo(), 2);
        dueNothingKept("undo", x);
        due("undo: LOST EMPTY", x.lost(8), 2);
        due("undo: LOST REPEAT", x.lost(1), 2);
        due("undo: LOST SET", x.lost(2), 1);
        due("redo", x.redo(), 0);
        dueNothingKept("redo", x);
        due("redo: LOST EMPTY", x.lost(8), 0);
        due("redo: LOST SET", x.lost(2), 1);
        due("redo: LOST FILE", x.lost(0), 1);
        x.edit(0, 6, 0);
        x.edit(0, 0, 0);
        x.undo();
        dueNothingKept("undo to nothing", x);
        due("undo to nothing: LOST FILE", x.lost(0), 1);
    }

    // "12 ACTS are kept to be undone"
    private static void twelveActsAreKept() {
        KeptTree x = new KeptTree();
        for (int acts = 1; acts <= 14; acts++) {
            due("edit " + acts, Texts.edit(x, 0, 0, ";") >= 0 ? 1 : 0, 1);
            due("can be undone behind " + acts, x.count(9), Math.min(acts, 12));
            due("can be done again", x.count(10), 0);
        }
        for (int left = 11; left >= 0; left--) {
            due("undo", x.undo(), left);
            due("bytes", x.count(0), left + 2);
            due("can be undone", x.count(9), left);
            due("can be done again", x.count(10), 12 - left);
        }
        due("no thirteenth", x.undo(), NONE);
        due("bytes stay", x.count(0), 2);
        for (int left = 11; left >= 0; left--) {
            due("redo", x.redo(), left);
            due("bytes", x.count(0), 14 - left);
            due("can be undone", x.count(9), 12 - left);
        }
        due("no thirteenth", x.redo(), NONE);
        due("bytes stay", x.count(0), 14);
        KeptTree round = new KeptTree();
        for (int acts = 0; acts < 40; acts++) {
            Texts.edit(round, 0, round.count(0), String.valueOf((char) ('a' + acts % 26)));
        }
        // the 40th left an n; undone are the 40th to the 29th, the 28th left a b
        for (int i = 0; i < 12; i++) {
            due("the 40th and so on", round.octet(0), 'a' + (39 - i) % 26);
            round.undo();
        }
        due("the 28th stays", round.octet(0), 'a' + 27 % 26);
        due("it can not be undone", round.undo(), NONE);
    }

    // each of the nine ACTS is one to be undone, as the thirteenth one, too
    private static void twelveOfEachAct() {
        String text = "{a=1;}b=2;?";
        List<Run> acts = new ArrayList<>();
        acts.add(x -> Texts.load(x, "7"));
        acts.add(x -> Texts.edit(x, 0, 1, ""));
        acts.add(x -> Texts.rename(x, x.names(0), "xyz"));
        acts.add(x -> x.drop(find(x, 9)));
        acts.add(x -> x.wrap(find(x, 9)));
        acts.add(x -> x.swap(find(x, 5), find(x, 9)));
        acts.add(x -> x.copy(find(x, 9), find(x, 5)));
        acts.add(x -> x.unwrap(find(x, 5)));
        acts.add(x -> x.mend());
        String[] behind = {"7", "a=1;}b=2;?", "{xyz=1;}b=2;?", "{a=1;}b=2;", "{a=1;}b=2;{?}", "?b=2;{a=1;}",
            "?{a=1;}b=2;?", "a=1;b=2;?", "{a=1;}b=2;"};
        for (int i = 0; i < behind.length; i++) {
            KeptTree one = Texts.of(text);
            acts.get(i).on(one);
            dueText("act " + i, one, behind[i]);
            due("act " + i + " is one more", one.count(9), 2);
            due("act " + i + " is undone", one.undo(), 1);
            dueText("act " + i + " undone", one, text);
            due("act " + i + " is done again", one.redo(), 0);
            dueText("act " + i + " done again", one, behind[i]);
            KeptTree full = Texts.of("");
            for (int k = 0; k < 11; k++) {
                Texts.load(full, text);
            }
            due("full", full.count(9), 12);
            acts.get(i).on(full);
            due("act " + i + " as the thirteenth", full.count(9), 12);
            for (int left = 11; left >= 0; left--) {
                due("act " + i + " as the thirteenth: undo", full.undo(), left);
            }
            due("act " + i + " as the thirteenth: undo", full.undo(), NONE);
            due("the first load is not undone", full.count(0), 0);
        }
    }

    // "what was undone can be done again till the next ACT"
    private static void doneAgainTillTheNextAct() {
        Run base = x -> {
            Texts.load(x, "{a=1;}b=2;?");
            Texts.edit(x, 0, 0, ";");
            Texts.edit(x, 0, 0, ";");
            x.undo();
            x.undo();
        };
        List<Run> acts = new ArrayList<>();
        acts.add(x -> x.load(0));
        acts.add(x -> x.edit(0, 0, 0));
        acts.add(x -> Texts.rename(x, x.names(0), "xyz"));
        acts.add(x -> x.drop(find(x, 9)));
        acts.add(x -> x.wrap(find(x, 9)));
        acts.add(x -> x.swap(find(x, 5), find(x, 9)));
        acts.add(x -> x.copy(find(x, 9), find(x, 5)));
        acts.add(x -> x.unwrap(find(x, 5)));
        acts.add(x -> x.mend());
        for (int i = 0; i < acts.size(); i++) {
            KeptTree x = base.made();
            due("two can be done again", x.count(10), 2);
            acts.get(i).on(x);
            due("behind act " + i + " none", x.count(10), 0);
            due("behind act " + i + " none", x.redo(), NONE);
            due("behind act " + i + " two are to be undone", x.count(9), 2);
        }
        KeptTree refused = base.made();
        refused.load(1);
        refused.edit(0, 99, 0);
        refused.rename(0, 1);
        refused.drop(0);
        refused.wrap(0);
        refused.swap(0, 0);
        refused.copy(0, 0);
        refused.unwrap(0);
        due("behind refused ones two still", refused.count(10), 2);
        refused.feed(0, 0, 0, 0, 0);
        due("behind feed two still", refused.count(10), 2);
        due("redo", refused.redo(), 1);
        due("behind redo one still", refused.count(10), 1);
        due("undo", refused.undo(), 1);
        due("behind undo two", refused.count(10), 2);
    }
}
