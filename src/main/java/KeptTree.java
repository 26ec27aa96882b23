/**
 * An editor's parser that keeps what it can of its tokens and its tree behind each edit.
 *
 * Every row is made once, in a constructor, and used again by all calls: no call makes an object.
 */
public final class KeptTree {
    /** There is none. */
    public static final int NONE = -1;

    private static final int LACKING = -2;
    private static final int TOO_LONG = -2;
    private static final int WITHIN = -2;
    private static final int BAD_NAME = -3;

    private static final int MOST_BYTES = 300;
    private static final int MOST_ACTS = 12;
    private static final int MOST_NEST = 10;
    // A byte brings four nodes at most (a call's name and bracket bring eight), FILE is one more.
    private static final int MOST_NODES = 4 * MOST_BYTES + 16;

    private static final int WORD = 0;
    private static final int DIGITS = 1;
    private static final int QUOTED = 2;
    private static final int PUNCTUATION = 3;
    private static final int STRAY = 4;

    private static final int FILE = 0;
    private static final int REPEAT = 1;
    private static final int SET = 2;
    private static final int CALL = 3;
    private static final int LIST = 4;
    private static final int BLOCK = 5;
    private static final int IF = 6;
    private static final int WHILE = 7;
    private static final int EMPTY = 8;
    private static final int ERROR = 9;
    private static final int SUM = 10;
    private static final int PRODUCT = 11;
    private static final int NAME = 12;
    private static final int NUMBER = 13;
    private static final int STRING = 14;
    private static final int BRACKET = 15;
    private static final int MARK = 16;
    private static final int MISSING = 17;
    private static final int SORTS = 18;

    // The number of the node that FILE is.
    private static final int ROOT = 0;

    private static final int LINE_END = 10;
    private static final int BLANK = 32;
    private static final int HASH = 35;
    private static final int QUOTE = 39;

    // The sign of a token: a mark's is its byte, a word's is one of these, all others have none.
    private static final int NO_SIGN = 0;
    private static final int SIGN_IF = 1;
    private static final int SIGN_ELSE = 2;
    private static final int SIGN_WHILE = 3;

    private final Bytes text;
    private final Bytes tape;
    // What an act makes of the text, till it is known that nothing speaks against it.
    private final Bytes draft;
    private final History history;
    private final Tokens tokens;
    private final Tree tree;
    private final Parser parser;
    private final Keeper keeper;
    private final Worth worth;
    private long editsKept;
    private long editsNodes;

    public KeptTree() {
        text = new Bytes();
        tape = new Bytes();
        draft = new Bytes();
        history = new History();
        tokens = new Tokens(text);
        tree = new Tree(text, tokens);
        parser = new Parser(tokens, tree);
        keeper = new Keeper(tokens, tree);
        worth = new Worth(text, tree);
        editsKept = 0;
        editsNodes = 0;
        parser.parse();
    }

    public int feed(int a, int b, int c, int d, int e) {
        if (tape.size() + 20 > MOST_BYTES) {
            return NONE;
        }
        tape.addFour(a);
        tape.addFour(b);
        tape.addFour(c);
        tape.addFour(d);
        tape.addFour(e);
        return tape.size();
    }

    // ---- acts

    public int load(int n) {
        if (n < 0 || n > tape.size()) {
            return NONE;
        }
        draft.clear();
        draft.addFrom(tape, 0, n);
        tape.clear();
        text.become(draft);
        history.add(text);
        renewWhole();
        editsKept = 0;
        editsNodes = 0;
        return tokens.size();
    }

    public int edit(int a, int b, int n) {
        if (a < 0 || a > b || b > text.size() || n < 0 || n > tape.size()) {
            return NONE;
        }
        draft.clear();
        draft.addFrom(text, 0, a);
        draft.addFrom(tape, 0, n);
        draft.addFrom(text, b, text.size());
        if (draft.isSpilled()) {
            return TOO_LONG;
        }
        tape.clear();
        return settle(a, b);
    }

    public int rename(int node, int n) {
        if (!tree.isOf(node, NAME) || !tapeBeginsWithLetters(n)) {
            return NONE;
        }
        int one = tree.fromOf(node);
        int many = draftRenamed(one, n);
        if (draft.isSpilled()) {
            return TOO_LONG;
        }
        if (Tokens.keyword(tape, 0, n) != NO_SIGN || tokens.isSpelled(one, tape, n)) {
            return BAD_NAME;
        }
        int a = tokens.firstOf(firstUse(one));
        int b = tokens.endOf(lastUse(one));
        tape.clear();
        settle(a, b);
        return many;
    }

    public int drop(int node) {
        if (!tree.isItem(node)) {
            return NONE;
        }
        int a = tree.firstOf(node);
        int b = tree.endOf(node);
        draft.clear();
        draft.addFrom(text, 0, a);
        draft.addFrom(text, b, text.size());
        settle(a, b);
        return b - a;
    }

    public int wrap(int node) {
        if (!tree.isItem(node)) {
            return NONE;
        }
        int a = tree.firstOf(node);
        int b = tree.endOf(node);
        draft.clear();
        draft.addFrom(text, 0, a);
        draft.add('{');
        draft.addFrom(text, a, b);
        draft.add('}');
        draft.addFrom(text, b, text.size());
        return draft.isSpilled() ? TOO_LONG : settle(a, b);
    }

    public int swap(int one, int other) {
        if (!tree.isItem(one) || !tree.isItem(other) || one == other) {
            return NONE;
        }
        int ahead = Math.min(one, other);
        int behind = Math.max(one, other);
        if (tree.isWithin(behind, ahead)) {
            return WITHIN;
        }
        int a = tree.firstOf(ahead);
        int b = tree.endOf(behind);
        draft.clear();
        draft.addFrom(text, 0, a);
        draft.addFrom(text, tree.firstOf(behind), b);
        draft.addFrom(text, tree.endOf(ahead), tree.firstOf(behind));
        draft.addFrom(text, a, tree.endOf(ahead));
        draft.addFrom(text, b, text.size());
        return settle(a, b);
    }

    public int copy(int one, int other) {
        if (!tree.isItem(one) || !tree.isItem(other)) {
            return NONE;
        }
        int a = tree.firstOf(other);
        draft.clear();
        draft.addFrom(text, 0, a);
        draft.addFrom(text, tree.firstOf(one), tree.endOf(one));
        draft.addFrom(text, a, text.size());
        return draft.isSpilled() ? TOO_LONG : settle(a, a);
    }

    public int unwrap(int node) {
        if (!tree.isOf(node, BLOCK)) {
            return NONE;
        }
        int a = tree.firstOf(node);
        int b = tree.endOf(node);
        int last = tree.kidOf(node, tree.kidsOf(node) - 1);
        int shut = tree.isOf(last, MARK) ? 1 : 0;
        draft.clear();
        draft.addFrom(text, 0, a);
        draft.addFrom(text, a + 1, b - shut);
        draft.addFrom(text, b, text.size());
        return settle(a, b);
    }

    public int mend() {
        int first = NONE;
        int last = NONE;
        int many = 0;
        int done = 0;
        draft.clear();
        for (int at = 0; at < tree.size(); at++) {
            if (!tree.isMendable(at)) {
                continue;
            }
            draft.addFrom(text, done, tree.firstOf(at));
            if (tree.isOf(at, MISSING)) {
                draft.add(tree.signOf(at));
            }
            done = tree.endOf(at);
            first = first == NONE ? at : first;
            last = at;
            many++;
        }
        if (many == 0) {
            return NONE;
        }
        draft.addFrom(text, done, text.size());
        if (draft.isSpilled()) {
            return TOO_LONG;
        }
        settle(tree.firstOf(first), tree.endOf(last));
        return many;
    }

    public int undo() {
        if (history.behind() == 0) {
            return NONE;
        }
        history.step(-1);
        text.become(history.current());
        renewWhole();
        return history.behind();
    }

    public int redo() {
        if (history.ahead() == 0) {
            return NONE;
        }
        history.step(1);
        text.become(history.current());
        renewWhole();
        return history.ahead();
    }

    // Carries out the EDIT of bytes a to b less 1 whose outcome stands in the draft.
    private int settle(int a, int b) {
        int more = draft.size() - text.size();
        keeper.remember();
        text.become(draft);
        history.add(text);
        tokens.scan();
        parser.parse();
        keeper.compare(a, b, more);
        editsKept += keeper.nodesKept();
        editsNodes += tree.size();
        return keeper.nodesKept();
    }

    // Reads the whole text anew, nothing is KEPT.
    private void renewWhole() {
        keeper.remember();
        tokens.scan();
        parser.parse();
        keeper.compareNothing();
    }

    private boolean tapeBeginsWithLetters(int n) {
        if (n < 1 || n > tape.size()) {
            return false;
        }
        for (int i = 0; i < n; i++) {
            if (!Tokens.isLetter(tape.at(i))) {
                return false;
            }
        }
        return true;
    }

    // Drafts the text with the tape's first n bytes for each NAME like that of a token: how many.
    private int draftRenamed(int one, int n) {
        int many = 0;
        int done = 0;
        draft.clear();
        for (int at = 0; at < tokens.size(); at++) {
            if (isUse(at, one)) {
                draft.addFrom(text, done, tokens.firstOf(at));
                draft.addFrom(tape, 0, n);
                done = tokens.endOf(at);
                many++;
            }
        }
        draft.addFrom(text, done, text.size());
        return many;
    }

    // Whether a token is a NAME with the bytes of another one.
    private boolean isUse(int token, int one) {
        return tree.isOf(tree.leafOf(token), NAME) && tokens.isSame(token, one);
    }

    private int firstUse(int one) {
        for (int at = 0; at < tokens.size(); at++) {
            if (isUse(at, one)) {
                return at;
            }
        }
        return NONE;
    }

    private int lastUse(int one) {
        for (int at = tokens.size() - 1; at >= 0; at--) {
            if (isUse(at, one)) {
                return at;
            }
        }
        return NONE;
    }

    // ---- what there is

    public int count(int what) {
        switch (what) {
            case 0:
                return text.size();
            case 1:
                return tokens.size();
            case 2:
                return tree.size();
            case 3:
                return tree.manyOf(ERROR);
            case 4:
                return tree.manyOf(MISSING);
            case 5:
                return tree.deepest();
            case 6:
                return keeper.tokensKept();
            case 7:
                return keeper.nodesKept();
            case 8:
                return tape.size();
            case 9:
                return history.behind();
            case 10:
                return history.ahead();
            case 11:
                return text.lineOf(text.size()) + 1;
            default:
                return NONE;
        }
    }

    public int octet(int i) {
        return text.at(i);
    }

    public int token(int token, int what) {
        if (!tokens.has(token)) {
            return NONE;
        }
        switch (what) {
            case 0:
                return tokens.sortOf(token);
            case 1:
                return tokens.firstOf(token);
            case 2:
                return tokens.endOf(token) - tokens.firstOf(token);
            case 3:
                return tokens.readOf(token);
            case 4:
                return keeper.isTokenKept(token) ? 1 : 0;
            case 5:
                return tree.leafOf(token);
            default:
                return NONE;
        }
    }

    public int tokenAt(int i) {
        if (i < 0 || i >= text.size()) {
            return NONE;
        }
        int found = tokens.holding(i);
        return found == NONE ? LACKING : found;
    }

    public int node(int node, int what) {
        if (!tree.has(node)) {
            return NONE;
        }
        switch (what) {
            case 0:
                return tree.sortOf(node);
            case 1:
                return tree.firstOf(node);
            case 2:
                return tree.endOf(node);
            case 3:
                return orLacking(tree.upOf(node));
            case 4:
                return tree.kidsOf(node);
            case 5:
                return orLacking(tree.kidOf(node, 0));
            case 6:
                return orLacking(tree.nextOf(node));
            case 7:
                return tree.depthOf(node);
            case 8:
                return keeper.isNodeKept(node) ? 1 : 0;
            case 9:
                return tree.takenOf(node) == 0 ? LACKING : tree.fromOf(node);
            case 10:
                return tree.takenOf(node);
            case 11:
                return tree.sizeOf(node);
            default:
                return NONE;
        }
    }

    public int child(int node, int k) {
        if (!tree.has(node) || k < 0) {
            return NONE;
        }
        return orLacking(tree.kidOf(node, k));
    }

    public int find(int sort, int k) {
        if (sort < 0 || sort >= SORTS || k < NONE) {
            return NONE;
        }
        if (k == NONE) {
            return tree.manyOf(sort);
        }
        int left = k;
        for (int at = 0; at < tree.size(); at++) {
            if (tree.isOf(at, sort)) {
                if (left == 0) {
                    return at;
                }
                left--;
            }
        }
        return LACKING;
    }

    private static int orLacking(int answer) {
        return answer == NONE ? LACKING : answer;
    }

    // ---- by bytes

    public int cover(int a, int b) {
        if (a < 0 || a >= b || b > text.size()) {
            return NONE;
        }
        // Nodes that share a byte stand within one another, so the last one is the innermost.
        int found = ROOT;
        for (int at = 0; at < tree.size(); at++) {
            if (tree.firstOf(at) <= a && tree.endOf(at) >= b) {
                found = at;
            }
        }
        return found;
    }

    public int common(int one, int other) {
        if (!tree.has(one) || !tree.has(other)) {
            return NONE;
        }
        return tree.sharedBy(one, other);
    }

    public int match(int i) {
        int leaf = tree.leafOf(tokens.holding(i));
        if (!tree.isOf(leaf, MARK)) {
            return NONE;
        }
        int wanted = partnerOf(tree.signOf(leaf));
        if (wanted == NO_SIGN) {
            return NONE;
        }
        int up = tree.upOf(leaf);
        for (int k = 0; k < tree.kidsOf(up); k++) {
            int kid = tree.kidOf(up, k);
            if (tree.signOf(kid) == wanted) {
                return tree.isOf(kid, MISSING) ? LACKING : tree.firstOf(kid);
            }
        }
        return NONE;
    }

    public int line(int i) {
        return i < 0 || i > text.size() ? NONE : text.lineOf(i);
    }

    public int column(int i) {
        return i < 0 || i > text.size() ? NONE : i - text.lineBegin(text.lineOf(i));
    }

    public int begin(int line) {
        return text.lineBegin(line);
    }

    public int begun(int line) {
        int from = text.lineBegin(line);
        if (from == NONE) {
            return NONE;
        }
        int next = text.lineBegin(line + 1);
        int upto = next == NONE ? text.size() + 1 : next;
        int many = 0;
        for (int at = 0; at < tree.size(); at++) {
            int place = tree.firstOf(at);
            if (place >= from && place < upto) {
                many++;
            }
        }
        return many;
    }

    public int level(int line) {
        int from = text.lineBegin(line);
        if (from == NONE) {
            return NONE;
        }
        int many = 0;
        for (int at = 0; at < tree.size(); at++) {
            if (tree.isOf(at, BLOCK) && tree.firstOf(at) < from && tree.endOf(at) > from) {
                many++;
            }
        }
        return many;
    }

    public int blanks(int line) {
        int from = text.lineBegin(line);
        if (from == NONE) {
            return NONE;
        }
        int many = 0;
        for (int at = from; at < text.size() && text.at(at) == BLANK; at++) {
            many++;
        }
        return many;
    }

    private static int partnerOf(int sign) {
        switch (sign) {
            case '(':
                return ')';
            case ')':
                return '(';
            case '{':
                return '}';
            case '}':
                return '{';
            default:
                return NO_SIGN;
        }
    }

    // ---- alike

    public int alike(int one, int other) {
        if (!tree.has(one) || !tree.has(other)) {
            return NONE;
        }
        return tree.areAlike(one, other) ? 1 : 0;
    }

    public int twins(int node) {
        if (!tree.has(node)) {
            return NONE;
        }
        int many = 0;
        for (int at = 0; at < tree.size(); at++) {
            if (tree.areAlike(node, at)) {
                many++;
            }
        }
        return many;
    }

    public int longest(int sort, int what) {
        if (sort < 0 || sort >= SORTS || what < 0 || what > 1) {
            return NONE;
        }
        int found = NONE;
        for (int at = 0; at < tree.size(); at++) {
            if (tree.isOf(at, sort) && (found == NONE || tree.takenOf(at) > tree.takenOf(found))) {
                found = at;
            }
        }
        return nodeOrTokens(found, what);
    }

    private int nodeOrTokens(int found, int what) {
        if (found == NONE) {
            return LACKING;
        }
        return what == 0 ? found : tree.takenOf(found);
    }

    // ---- wrong, dirty, lost

    public int wrong(int k, int what) {
        if (k < 0 || what < 0 || what > 3) {
            return NONE;
        }
        int found = NONE;
        int left = k;
        for (int at = 0; at < tree.size() && found == NONE; at++) {
            if (tree.isOf(at, ERROR) || tree.isOf(at, MISSING)) {
                found = left == 0 ? at : NONE;
                left--;
            }
        }
        if (found == NONE) {
            return LACKING;
        }
        switch (what) {
            case 0:
                return found;
            case 1:
                return tree.firstOf(found);
            case 2:
                return text.lineOf(tree.firstOf(found));
            default:
                return tree.fromOf(found);
        }
    }

    public int dirty(int what) {
        if (what < 0 || what > 3) {
            return NONE;
        }
        int first = NONE;
        int last = NONE;
        for (int at = 0; at < tokens.size(); at++) {
            if (!keeper.isTokenKept(at)) {
                first = first == NONE ? at : first;
                last = at;
            }
        }
        switch (what) {
            case 0:
                return orLacking(first);
            case 1:
                return orLacking(last);
            case 2:
                return tokens.size() - keeper.tokensKept();
            default:
                return first == NONE ? 0 : last - first + 1;
        }
    }

    public int lost(int sort) {
        return keeper.lostOf(sort);
    }

    public int greatest(int what) {
        if (what < 0 || what > 1) {
            return NONE;
        }
        int found = NONE;
        for (int at = 0; at < tree.size(); at++) {
            if (keeper.isNodeKept(at) && (found == NONE || tree.takenOf(at) > tree.takenOf(found))) {
                found = at;
            }
        }
        return nodeOrTokens(found, what);
    }

    public int whole() {
        int many = 0;
        int at = 0;
        // Behind a KEPT node all that is within it is passed over at once.
        for (int turn = 0; turn < MOST_NODES && at < tree.size(); turn++) {
            boolean kept = keeper.isNodeKept(at);
            many += kept ? 1 : 0;
            at += kept ? Math.max(1, tree.sizeOf(at)) : 1;
        }
        return many;
    }

    public int share() {
        return editsNodes <= 0 ? LACKING : (int) (editsKept * 100 / editsNodes);
    }

    // ---- names, values

    public int names(int k) {
        if (k < NONE) {
            return NONE;
        }
        int many = 0;
        for (int at = 0; at < tokens.size(); at++) {
            if (isUse(at, at) && firstUse(at) == at) {
                if (many == k) {
                    return tree.leafOf(at);
                }
                many++;
            }
        }
        return k == NONE ? many : LACKING;
    }

    public int uses(int node) {
        if (!tree.isOf(node, NAME)) {
            return NONE;
        }
        int many = 0;
        for (int at = 0; at < tokens.size(); at++) {
            if (isUse(at, tree.fromOf(node))) {
                many++;
            }
        }
        return many;
    }

    public long value(int node) {
        return worth.of(node);
    }

    public int told(int node) {
        if (!tree.isOf(node, NAME)) {
            return NONE;
        }
        int found = LACKING;
        for (int at = 0; at < tree.size(); at++) {
            // The first token of a SET is its NAME.
            if (tree.isOf(at, SET) && tree.endOf(at) <= tree.firstOf(node)
                    && tokens.isSame(tree.fromOf(at), tree.fromOf(node))) {
                found = at;
            }
        }
        return found;
    }

    public int item(int k, int what) {
        if (k < NONE || (k != NONE && (what < 0 || what > 2))) {
            return NONE;
        }
        int many = 0;
        int found = NONE;
        for (int at = 0; at < tree.size() && found == NONE; at++) {
            if (tree.isItem(at)) {
                found = many == k ? at : NONE;
                many++;
            }
        }
        if (k == NONE) {
            return many;
        }
        if (found == NONE) {
            return LACKING;
        }
        switch (what) {
            case 0:
                return found;
            case 1:
                return tree.manyAround(found, BLOCK);
            default:
                return tree.manyAround(found, IF) + tree.manyAround(found, WHILE);
        }
    }

    public int far(int one, int other) {
        if (!tree.has(one) || !tree.has(other)) {
            return NONE;
        }
        int shared = tree.sharedBy(one, other);
        return tree.depthOf(one) + tree.depthOf(other) - 2 * tree.depthOf(shared);
    }

    /** A row of at most 300 bytes. */
    private static final class Bytes {
        private final int[] row;
        private int held;
        private boolean spilled;

        Bytes() {
            row = new int[MOST_BYTES];
            held = 0;
            spilled = false;
        }

        int size() {
            return held;
        }

        int at(int i) {
            return i >= 0 && i < held && i < row.length ? row[i] : NONE;
        }

        // Whether bytes came, since it was cleared, for which there was no room.
        boolean isSpilled() {
            return spilled;
        }

        void clear() {
            held = 0;
            spilled = false;
        }

        void add(int octet) {
            if (held >= 0 && held < row.length) {
                row[held] = octet & 255;
                held++;
            } else {
                spilled = true;
            }
        }

        void addFour(int four) {
            add(four >>> 24);
            add(four >>> 16);
            add(four >>> 8);
            add(four);
        }

        void addFrom(Bytes other, int from, int upto) {
            for (int i = from; i < upto; i++) {
                add(other.at(i));
            }
        }

        void become(Bytes other) {
            clear();
            addFrom(other, 0, other.size());
        }

        int lineOf(int i) {
            int ends = 0;
            for (int spot = 0; spot < i && spot < held; spot++) {
                if (at(spot) == LINE_END) {
                    ends++;
                }
            }
            return ends;
        }

        // The first byte of a LINE; NONE: there is no such one.
        int lineBegin(int line) {
            if (line == 0) {
                return 0;
            }
            int ends = 0;
            for (int spot = 0; spot < held; spot++) {
                if (at(spot) == LINE_END) {
                    ends++;
                    if (ends == line) {
                        return spot + 1;
                    }
                }
            }
            return NONE;
        }

        // Where the LINE of a byte has its byte 10, or the end.
        int lineEnd(int from) {
            int spot = from;
            while (spot < held && at(spot) != LINE_END) {
                spot++;
            }
            return spot;
        }
    }

    /** The texts ahead of the acts that can be undone, the text as it is, and what was undone. */
    private static final class History {
        private final Bytes[] texts;
        private int now;
        private int last;

        History() {
            texts = new Bytes[MOST_ACTS + 1];
            for (int i = 0; i < texts.length; i++) {
                texts[i] = new Bytes();
            }
            now = 0;
            last = 0;
        }

        int behind() {
            return now;
        }

        int ahead() {
            return last - now;
        }

        void add(Bytes text) {
            if (now >= MOST_ACTS) {
                forgetFirst();
            } else {
                now++;
            }
            last = now;
            current().become(text);
        }

        void step(int by) {
            int to = now + by;
            if (to >= 0 && to <= last) {
                now = to;
            }
        }

        Bytes current() {
            return texts[Math.max(0, Math.min(now, MOST_ACTS))];
        }

        private void forgetFirst() {
            Bytes first = texts[0];
            for (int i = 0; i + 1 < texts.length; i++) {
                texts[i] = texts[i + 1];
            }
            texts[texts.length - 1] = first;
        }
    }

    /** The TOKENS of a text. */
    private static final class Tokens {
        private final Bytes text;
        private final int[] sorts;
        private final int[] firsts;
        private final int[] ends;
        private final int[] reads;
        private final int[] signs;
        private int held;

        Tokens(Bytes itsText) {
            text = itsText;
            sorts = new int[MOST_BYTES];
            firsts = new int[MOST_BYTES];
            ends = new int[MOST_BYTES];
            reads = new int[MOST_BYTES];
            signs = new int[MOST_BYTES];
            held = 0;
        }

        int size() {
            return held;
        }

        boolean has(int token) {
            return token >= 0 && token < held && token < MOST_BYTES;
        }

        // This one and signOf() look at the index by themselves: the parser's calls are deep.
        int sortOf(int token) {
            return token >= 0 && token < held && token < MOST_BYTES ? sorts[token] : NONE;
        }

        int firstOf(int token) {
            return has(token) ? firsts[token] : 0;
        }

        // What is behind its last byte; 0 where there is no such token.
        int endOf(int token) {
            return has(token) ? ends[token] : 0;
        }

        int readOf(int token) {
            return has(token) ? reads[token] : NONE;
        }

        int signOf(int token) {
            return token >= 0 && token < held && token < MOST_BYTES ? signs[token] : NO_SIGN;
        }

        // The token with a byte, or NONE.
        int holding(int i) {
            for (int at = 0; at < held; at++) {
                if (firstOf(at) <= i && i < endOf(at)) {
                    return at;
                }
            }
            return NONE;
        }

        boolean isSame(int one, int other) {
            int many = endOf(one) - firstOf(one);
            if (many != endOf(other) - firstOf(other)) {
                return false;
            }
            for (int i = 0; i < many; i++) {
                if (text.at(firstOf(one) + i) != text.at(firstOf(other) + i)) {
                    return false;
                }
            }
            return true;
        }

        // Whether a token's bytes are the first n of some others.
        boolean isSpelled(int token, Bytes others, int n) {
            if (endOf(token) - firstOf(token) != n) {
                return false;
            }
            for (int i = 0; i < n; i++) {
                if (text.at(firstOf(token) + i) != others.at(i)) {
                    return false;
                }
            }
            return true;
        }

        void scan() {
            held = 0;
            int next = 0;
            for (int at = 0; at < text.size(); at++) {
                if (at == next) {
                    next = scanOne(at);
                }
            }
        }

        // Takes what begins at a byte: the byte behind it.
        private int scanOne(int at) {
            int octet = text.at(at);
            if (octet == BLANK || octet == LINE_END) {
                return at + 1;
            }
            if (octet == HASH) {
                return text.lineEnd(at);
            }
            if (isLetter(octet)) {
                int end = runEnd(at, true);
                add(WORD, at, end, end, keyword(text, at, end));
                return end;
            }
            if (isDigit(octet)) {
                int end = runEnd(at, false);
                add(DIGITS, at, end, end, NO_SIGN);
                return end;
            }
            if (octet == QUOTE) {
                return scanQuote(at);
            }
            boolean mark = isMark(octet);
            add(mark ? PUNCTUATION : STRAY, at, at + 1, at, mark ? octet : NO_SIGN);
            return at + 1;
        }

        private int scanQuote(int at) {
            int lineEnd = text.lineEnd(at);
            for (int i = at + 1; i < lineEnd; i++) {
                if (text.at(i) == QUOTE) {
                    add(QUOTED, at, i + 1, i, NO_SIGN);
                    return i + 1;
                }
            }
            add(STRAY, at, at + 1, lineEnd, NO_SIGN);
            return at + 1;
        }

        private int runEnd(int from, boolean letters) {
            int at = from;
            while (at < text.size() && (letters ? isLetter(text.at(at)) : isDigit(text.at(at)))) {
                at++;
            }
            return at;
        }

        private void add(int sort, int first, int end, int read, int sign) {
            if (held < 0 || held >= MOST_BYTES) {
                return;
            }
            sorts[held] = sort;
            firsts[held] = first;
            ends[held] = end;
            reads[held] = read;
            signs[held] = sign;
            held++;
        }

        static boolean isLetter(int octet) {
            return octet >= 'a' && octet <= 'z';
        }

        private static boolean isDigit(int octet) {
            return octet >= '0' && octet <= '9';
        }

        private static boolean isMark(int octet) {
            switch (octet) {
                case '=':
                case '(':
                case ')':
                case '{':
                case '}':
                case ';':
                case ',':
                case '+':
                case '-':
                case '*':
                case '/':
                    return true;
                default:
                    return false;
            }
        }

        // The sign of if, else, while; NO_SIGN for other words.
        static int keyword(Bytes bytes, int from, int upto) {
            if (spells(bytes, from, upto, "if")) {
                return SIGN_IF;
            }
            if (spells(bytes, from, upto, "else")) {
                return SIGN_ELSE;
            }
            return spells(bytes, from, upto, "while") ? SIGN_WHILE : NO_SIGN;
        }

        private static boolean spells(Bytes bytes, int from, int upto, String word) {
            if (upto - from != word.length()) {
                return false;
            }
            for (int i = 0; i < word.length(); i++) {
                if (bytes.at(from + i) != word.charAt(i)) {
                    return false;
                }
            }
            return true;
        }
    }

    /** The NODES in their order: those within a node follow it at once. */
    private static final class Tree {
        private final Bytes text;
        private final Tokens tokens;
        private final int[] sorts;
        private final int[] ups;
        private final int[] kids;
        private final int[] sizes;
        private final int[] depths;
        // How many tokens are ahead of a node, how many it has.
        private final int[] froms;
        private final int[] takens;
        private final int[] signs;
        private final int[] leaves;
        private int held;

        Tree(Bytes itsText, Tokens itsTokens) {
            text = itsText;
            tokens = itsTokens;
            sorts = new int[MOST_NODES];
            ups = new int[MOST_NODES];
            kids = new int[MOST_NODES];
            sizes = new int[MOST_NODES];
            depths = new int[MOST_NODES];
            froms = new int[MOST_NODES];
            takens = new int[MOST_NODES];
            signs = new int[MOST_NODES];
            leaves = new int[MOST_BYTES];
            held = 0;
        }

        int size() {
            return held;
        }

        boolean has(int node) {
            return node >= 0 && node < held && node < MOST_NODES;
        }

        int sortOf(int node) {
            return has(node) ? sorts[node] : NONE;
        }

        boolean isOf(int node, int sort) {
            return has(node) && sorts[node] == sort;
        }

        boolean isItem(int node) {
            switch (sortOf(node)) {
                case SET:
                case CALL:
                case BLOCK:
                case IF:
                case WHILE:
                case EMPTY:
                case ERROR:
                    return true;
                default:
                    return false;
            }
        }

        boolean isMendable(int node) {
            return isOf(node, ERROR) || (isOf(node, MISSING) && signOf(node) != NO_SIGN);
        }

        int upOf(int node) {
            return has(node) ? ups[node] : NONE;
        }

        int kidsOf(int node) {
            return has(node) ? kids[node] : 0;
        }

        int sizeOf(int node) {
            return has(node) ? sizes[node] : 0;
        }

        int depthOf(int node) {
            return has(node) ? depths[node] : 0;
        }

        int fromOf(int node) {
            return has(node) ? froms[node] : NONE;
        }

        int takenOf(int node) {
            return has(node) ? takens[node] : 0;
        }

        // The sign of a MARK, or that which is MISSING.
        int signOf(int node) {
            return has(node) ? signs[node] : NO_SIGN;
        }

        int leafOf(int token) {
            return token >= 0 && token < tokens.size() && token < MOST_BYTES ? leaves[token] : NONE;
        }

        int firstOf(int node) {
            if (node == ROOT) {
                return 0;
            }
            int from = fromOf(node);
            return takenOf(node) == 0 ? tokens.endOf(from - 1) : tokens.firstOf(from);
        }

        int endOf(int node) {
            return node == ROOT ? text.size() : tokens.endOf(fromOf(node) + takenOf(node) - 1);
        }

        int kidOf(int node, int k) {
            if (k < 0 || k >= kidsOf(node)) {
                return NONE;
            }
            int at = node + 1;
            for (int i = 0; i < k; i++) {
                at += sizeOf(at);
            }
            return at;
        }

        int nextOf(int node) {
            int up = upOf(node);
            int next = node + sizeOf(node);
            return up != NONE && next < up + sizeOf(up) ? next : NONE;
        }

        boolean isWithin(int node, int around) {
            return node >= around && node < around + sizeOf(around);
        }

        int sharedBy(int one, int other) {
            int here = one;
            int there = other;
            // A node's number is above that of all it is within, so the higher one goes up.
            for (int turn = 0; turn < 2 * MOST_NODES && here != there; turn++) {
                if (here > there) {
                    here = upOf(here);
                } else {
                    there = upOf(there);
                }
            }
            return here;
        }

        int manyOf(int sort) {
            int many = 0;
            for (int at = 0; at < held; at++) {
                many += isOf(at, sort) ? 1 : 0;
            }
            return many;
        }

        int manyAround(int node, int sort) {
            int many = 0;
            int at = upOf(node);
            for (int turn = 0; turn < MOST_NODES && at != NONE; turn++) {
                many += isOf(at, sort) ? 1 : 0;
                at = upOf(at);
            }
            return many;
        }

        int deepest() {
            int most = 0;
            for (int at = 0; at < held; at++) {
                most = Math.max(most, depthOf(at));
            }
            return most;
        }

        // In this order two nodes are alike if all within them are, one by one.
        boolean areAlike(int one, int other) {
            int many = sizeOf(one);
            if (many != sizeOf(other)) {
                return false;
            }
            for (int i = 0; i < many; i++) {
                if (!areLike(one + i, other + i)) {
                    return false;
                }
            }
            return true;
        }

        private boolean areLike(int one, int other) {
            if (sortOf(one) != sortOf(other) || kidsOf(one) != kidsOf(other)) {
                return false;
            }
            if (kidsOf(one) > 0) {
                return true;
            }
            if (isOf(one, MISSING)) {
                return signOf(one) == signOf(other);
            }
            return tokens.isSame(fromOf(one), fromOf(other));
        }

        void clear() {
            held = 0;
        }

        int add(int sort, int up, int from, int taken, int sign) {
            if (held < 0 || held >= MOST_NODES) {
                return NONE;
            }
            sorts[held] = sort;
            ups[held] = up;
            kids[held] = 0;
            sizes[held] = 1;
            depths[held] = depthOf(up) + 1;
            froms[held] = from;
            takens[held] = taken;
            signs[held] = sign;
            held++;
            return held - 1;
        }

        void finish() {
            for (int at = held - 1; at > 0; at--) {
                int up = upOf(at);
                if (has(up)) {
                    sizes[up] += sizeOf(at);
                    kids[up]++;
                }
            }
            for (int at = 0; at < held; at++) {
                int from = fromOf(at);
                if (kidsOf(at) == 0 && takenOf(at) == 1 && from >= 0 && from < MOST_BYTES) {
                    leaves[from] = at;
                }
            }
        }
    }

    /**
     * Makes the tree of the tokens. Nodes are drafted as they are met, where a sum is made behind
     * what it begins with, and laid into the tree in their order at the end.
     */
    private static final class Parser {
        private final Tokens tokens;
        private final Tree tree;
        private final int[] sorts;
        private final int[] froms;
        private final int[] uptos;
        private final int[] signs;
        private final int[] ups;
        private final int[] firstKids;
        private final int[] lastKids;
        private final int[] nexts;
        private final int[] places;
        private int held;
        private int at;

        Parser(Tokens itsTokens, Tree itsTree) {
            tokens = itsTokens;
            tree = itsTree;
            sorts = new int[MOST_NODES];
            froms = new int[MOST_NODES];
            uptos = new int[MOST_NODES];
            signs = new int[MOST_NODES];
            ups = new int[MOST_NODES];
            firstKids = new int[MOST_NODES];
            lastKids = new int[MOST_NODES];
            nexts = new int[MOST_NODES];
            places = new int[MOST_NODES];
            held = 0;
            at = 0;
        }

        void parse() {
            held = 0;
            at = 0;
            int file = grow(FILE, 0, NO_SIGN);
            hang(file, items(0, false));
            shut(file);
            lay(file);
        }

        // ITEMS up to the end, or, within a BLOCK, to its } : one node of them all, or NONE.
        private int items(int nest, boolean inBlock) {
            int head = NONE;
            int tail = NONE;
            for (int turn = 0; turn < MOST_BYTES && tokens.has(at); turn++) {
                if (inBlock && tokens.signOf(at) == '}') {
                    break;
                }
                int one = anItem(nest);
                if (tail == NONE) {
                    head = one;
                } else {
                    follow(tail, one);
                }
                tail = one;
            }
            return balanced(head);
        }

        private int anItem(int nest) {
            boolean open = nest < MOST_NEST;
            int sign = tokens.signOf(at);
            if (sign == SIGN_IF && open) {
                return branch(IF, nest + 1);
            }
            if (sign == SIGN_WHILE && open) {
                return branch(WHILE, nest + 1);
            }
            if (sign == '{' && open) {
                return block(nest + 1);
            }
            if (sign == ';') {
                return grow(EMPTY, 1, NO_SIGN);
            }
            if (isPlainWord()) {
                int next = tokens.signOf(at + 1);
                if (next == '=') {
                    return assignment(nest);
                }
                if (next == '(') {
                    return invocation(nest);
                }
            }
            return grow(ERROR, 1, NO_SIGN);
        }

        private int branch(int sort, int nest) {
            int made = grow(sort, 0, NO_SIGN);
            hang(made, grow(MARK, 1, NO_SIGN));
            hang(made, expression(nest));
            hang(made, body(nest));
            if (sort == IF && tokens.signOf(at) == SIGN_ELSE) {
                hang(made, grow(MARK, 1, NO_SIGN));
                hang(made, body(nest));
            }
            return shut(made);
        }

        private int body(int nest) {
            int sign = tokens.signOf(at);
            boolean word = tokens.sortOf(at) == WORD && sign != SIGN_ELSE;
            if (word || sign == '{' || sign == ';') {
                return anItem(nest);
            }
            return grow(MISSING, 0, NO_SIGN);
        }

        private int block(int nest) {
            int made = grow(BLOCK, 0, NO_SIGN);
            hang(made, grow(MARK, 1, '{'));
            hang(made, items(nest, true));
            hang(made, closing('}'));
            return shut(made);
        }

        private int assignment(int nest) {
            int made = grow(SET, 0, NO_SIGN);
            hang(made, grow(NAME, 1, NO_SIGN));
            hang(made, grow(MARK, 1, NO_SIGN));
            hang(made, expression(nest));
            hang(made, closing(';'));
            return shut(made);
        }

        private int invocation(int nest) {
            int made = grow(CALL, 0, NO_SIGN);
            hang(made, grow(NAME, 1, NO_SIGN));
            hang(made, grow(MARK, 1, '('));
            if (tokens.signOf(at) != ')') {
                int list = grow(LIST, 0, NO_SIGN);
                hang(list, expression(nest));
                for (int turn = 0; turn < MOST_BYTES && tokens.signOf(at) == ','; turn++) {
                    hang(list, grow(MARK, 1, NO_SIGN));
                    hang(list, expression(nest));
                }
                hang(made, shut(list));
            }
            hang(made, closing(')'));
            hang(made, closing(';'));
            return shut(made);
        }

        private int expression(int nest) {
            int left = term(nest);
            for (int turn = 0; turn < MOST_BYTES && isNext('+', '-'); turn++) {
                int made = growOver(SUM, left);
                hang(made, left);
                hang(made, grow(MARK, 1, tokens.signOf(at)));
                hang(made, term(nest));
                left = shut(made);
            }
            return left;
        }

        private int term(int nest) {
            int left = part(nest);
            for (int turn = 0; turn < MOST_BYTES && isNext('*', '/'); turn++) {
                int made = growOver(PRODUCT, left);
                hang(made, left);
                hang(made, grow(MARK, 1, tokens.signOf(at)));
                hang(made, part(nest));
                left = shut(made);
            }
            return left;
        }

        private int part(int nest) {
            if (isPlainWord()) {
                return grow(NAME, 1, NO_SIGN);
            }
            if (tokens.sortOf(at) == DIGITS) {
                return grow(NUMBER, 1, NO_SIGN);
            }
            if (tokens.sortOf(at) == QUOTED) {
                return grow(STRING, 1, NO_SIGN);
            }
            if (tokens.signOf(at) != '(' || nest >= MOST_NEST) {
                return grow(MISSING, 0, NO_SIGN);
            }
            int made = grow(BRACKET, 0, NO_SIGN);
            hang(made, grow(MARK, 1, '('));
            hang(made, expression(nest + 1));
            hang(made, closing(')'));
            return shut(made);
        }

        private boolean isPlainWord() {
            return tokens.sortOf(at) == WORD && tokens.signOf(at) == NO_SIGN;
        }

        private boolean isNext(int sign, int other) {
            int next = tokens.signOf(at);
            return next == sign || next == other;
        }

        private int closing(int sign) {
            return tokens.signOf(at) == sign ? grow(MARK, 1, sign) : grow(MISSING, 0, sign);
        }

        // A new node that takes that many tokens, or NONE.
        private int grow(int sort, int taken, int sign) {
            if (held < 0 || held >= MOST_NODES) {
                return NONE;
            }
            sorts[held] = sort;
            froms[held] = at;
            at += taken;
            uptos[held] = at;
            signs[held] = sign;
            ups[held] = NONE;
            firstKids[held] = NONE;
            lastKids[held] = NONE;
            nexts[held] = NONE;
            held++;
            return held - 1;
        }

        // A new node that begins where another one does.
        private int growOver(int sort, int first) {
            int made = grow(sort, 0, NO_SIGN);
            if (isHeld(made) && isHeld(first)) {
                froms[made] = froms[first];
            }
            return made;
        }

        private int shut(int node) {
            if (isHeld(node)) {
                uptos[node] = at;
            }
            return node;
        }

        private boolean isHeld(int node) {
            return node >= 0 && node < held && node < MOST_NODES;
        }

        private void hang(int up, int kid) {
            if (!isHeld(up) || !isHeld(kid)) {
                return;
            }
            int last = lastKids[up];
            if (isHeld(last)) {
                nexts[last] = kid;
            } else {
                firstKids[up] = kid;
            }
            lastKids[up] = kid;
            ups[kid] = up;
            nexts[kid] = NONE;
        }

        private void follow(int one, int next) {
            if (isHeld(one)) {
                nexts[one] = next;
            }
        }

        private int nextTo(int one) {
            return isHeld(one) ? nexts[one] : NONE;
        }

        // Pairs, pairs of pairs and so on: their first halves are powers of two, as is due.
        private int balanced(int head) {
            int row = head;
            for (int turn = 0; turn < MOST_BYTES && nextTo(row) != NONE; turn++) {
                int one = row;
                int tail = NONE;
                for (int pair = 0; pair < MOST_BYTES && one != NONE; pair++) {
                    int other = nextTo(one);
                    int rest = nextTo(other);
                    int made = other == NONE ? one : repeat(one, other);
                    if (tail == NONE) {
                        row = made;
                    } else {
                        follow(tail, made);
                    }
                    tail = made;
                    one = rest;
                }
            }
            return row;
        }

        private int repeat(int one, int other) {
            int made = growOver(REPEAT, one);
            hang(made, one);
            hang(made, other);
            if (isHeld(made) && isHeld(other)) {
                uptos[made] = uptos[other];
            }
            return made;
        }

        private void lay(int root) {
            tree.clear();
            int here = root;
            for (int turn = 0; turn < MOST_NODES && isHeld(here); turn++) {
                int up = ups[here];
                places[here] = tree.add(sorts[here], isHeld(up) ? places[up] : NONE,
                        froms[here], uptos[here] - froms[here], signs[here]);
                here = firstKids[here] == NONE ? nextAround(here) : firstKids[here];
            }
            tree.finish();
        }

        // The next one of a node, or of the nearest one around it that has a next one.
        private int nextAround(int node) {
            int here = node;
            for (int turn = 0; turn < MOST_NODES && isHeld(here); turn++) {
                if (nexts[here] != NONE) {
                    return nexts[here];
                }
                here = ups[here];
            }
            return NONE;
        }
    }

    /** What there was ahead of an act, and what of it is KEPT. */
    private static final class Keeper {
        private final Tokens tokens;
        private final Tree tree;
        private final int[] oldTokenSorts;
        private final int[] oldTokenLengths;
        private final int[] oldTokenReads;
        // The old token that begins at a byte, or NONE.
        private final int[] oldTokenAt;
        private int oldTokens;
        private final int[] oldSorts;
        private final int[] oldFroms;
        private final int[] oldTakens;
        // The first old node with that many tokens ahead of it.
        private final int[] oldNodeAt;
        private int oldNodes;
        // The old token that a token is, or NONE.
        private final int[] origins;
        // How many tokens from one on are KEPT and stood side by side.
        private final int[] runs;
        private final boolean[] kept;
        private final int[] losses;
        private int tokensKept;
        private int nodesKept;

        Keeper(Tokens itsTokens, Tree itsTree) {
            tokens = itsTokens;
            tree = itsTree;
            oldTokenSorts = new int[MOST_BYTES];
            oldTokenLengths = new int[MOST_BYTES];
            oldTokenReads = new int[MOST_BYTES];
            oldTokenAt = new int[MOST_BYTES];
            oldSorts = new int[MOST_NODES];
            oldFroms = new int[MOST_NODES];
            oldTakens = new int[MOST_NODES];
            oldNodeAt = new int[MOST_BYTES + 1];
            origins = new int[MOST_BYTES];
            runs = new int[MOST_BYTES];
            kept = new boolean[MOST_NODES];
            losses = new int[SORTS];
            oldTokens = 0;
            oldNodes = 0;
            tokensKept = 0;
            nodesKept = 0;
        }

        int tokensKept() {
            return tokensKept;
        }

        int nodesKept() {
            return nodesKept;
        }

        boolean isTokenKept(int token) {
            return originOf(token) != NONE;
        }

        boolean isNodeKept(int node) {
            return tree.has(node) && node < kept.length && kept[node];
        }

        int lostOf(int sort) {
            return sort >= 0 && sort < losses.length ? losses[sort] : NONE;
        }

        void remember() {
            rememberTokens();
            rememberNodes();
        }

        private void rememberTokens() {
            oldTokens = Math.min(tokens.size(), MOST_BYTES);
            for (int place = 0; place < oldTokenAt.length; place++) {
                oldTokenAt[place] = NONE;
            }
            for (int at = 0; at < oldTokens; at++) {
                int first = tokens.firstOf(at);
                oldTokenSorts[at] = tokens.sortOf(at);
                oldTokenLengths[at] = tokens.endOf(at) - first;
                oldTokenReads[at] = tokens.readOf(at);
                if (first >= 0 && first < oldTokenAt.length) {
                    oldTokenAt[first] = at;
                }
            }
        }

        private void rememberNodes() {
            oldNodes = Math.min(tree.size(), MOST_NODES);
            for (int from = 0; from < oldNodeAt.length; from++) {
                oldNodeAt[from] = NONE;
            }
            for (int at = 0; at < oldNodes; at++) {
                int from = tree.fromOf(at);
                oldSorts[at] = tree.sortOf(at);
                oldFroms[at] = from;
                oldTakens[at] = tree.takenOf(at);
                if (from >= 0 && from < oldNodeAt.length && oldNodeAt[from] == NONE) {
                    oldNodeAt[from] = at;
                }
            }
        }

        void compareNothing() {
            for (int at = 0; at < origins.length; at++) {
                origins[at] = NONE;
            }
            tokensKept = 0;
            compareNodes();
        }

        // Behind an EDIT of bytes a to b less 1, with so many more that came than went.
        void compare(int a, int b, int more) {
            tokensKept = 0;
            for (int at = 0; at < tokens.size() && at < origins.length; at++) {
                origins[at] = originBy(at, a, b, more);
                tokensKept += origins[at] == NONE ? 0 : 1;
            }
            compareNodes();
        }

        private int originBy(int token, int a, int b, int more) {
            int first = tokens.firstOf(token);
            boolean ahead = first < a;
            int place = ahead ? first : first - more;
            if (!ahead && place < b) {
                return NONE;
            }
            int old = place >= 0 && place < oldTokenAt.length ? oldTokenAt[place] : NONE;
            if (old < 0 || old >= oldTokens || old >= MOST_BYTES) {
                return NONE;
            }
            boolean same = oldTokenSorts[old] == tokens.sortOf(token)
                    && oldTokenLengths[old] == tokens.endOf(token) - first;
            return same && (!ahead || oldTokenReads[old] < a) ? old : NONE;
        }

        private int originOf(int token) {
            return tokens.has(token) && token < origins.length ? origins[token] : NONE;
        }

        private void compareNodes() {
            findRuns();
            for (int sort = 0; sort < losses.length; sort++) {
                losses[sort] = 0;
            }
            for (int at = 0; at < oldNodes && at < MOST_NODES; at++) {
                addLoss(oldSorts[at], 1);
            }
            nodesKept = 0;
            for (int at = 0; at < tree.size() && at < kept.length; at++) {
                kept[at] = wasThere(at);
                if (kept[at]) {
                    nodesKept++;
                    addLoss(tree.sortOf(at), -1);
                }
            }
        }

        private void addLoss(int sort, int by) {
            if (sort >= 0 && sort < losses.length) {
                losses[sort] += by;
            }
        }

        private void findRuns() {
            int run = 0;
            int next = NONE;
            for (int at = Math.min(tokens.size(), runs.length) - 1; at >= 0; at--) {
                int origin = originOf(at);
                if (origin == NONE) {
                    run = 0;
                } else {
                    run = next == origin + 1 ? run + 1 : 1;
                }
                runs[at] = run;
                next = origin;
            }
        }

        private boolean wasThere(int node) {
            int from = tree.fromOf(node);
            int taken = tree.takenOf(node);
            if (node == ROOT || taken == 0 || from < 0 || from >= runs.length || runs[from] < taken) {
                return false;
            }
            int origin = originOf(from);
            int old = origin >= 0 && origin < oldNodeAt.length ? oldNodeAt[origin] : NONE;
            if (old < 0) {
                return false;
            }
            // Old nodes with as many tokens ahead of them follow one another.
            for (int at = old; at < oldNodes && at < MOST_NODES && oldFroms[at] == origin; at++) {
                if (oldSorts[at] == tree.sortOf(node) && oldTakens[at] == taken) {
                    return true;
                }
            }
            return false;
        }
    }

    /** The VALUES of nodes. */
    private static final class Worth {
        private final Bytes text;
        private final Tree tree;
        private final long[] worths;

        Worth(Bytes itsText, Tree itsTree) {
            text = itsText;
            tree = itsTree;
            worths = new long[MOST_NODES];
        }

        // Children have higher numbers, so from the last one within it on all are known in time.
        long of(int node) {
            if (!hasWorth(tree.sortOf(node))) {
                return Long.MIN_VALUE;
            }
            for (int at = node + tree.sizeOf(node) - 1; at >= node; at--) {
                if (at >= 0 && at < worths.length) {
                    worths[at] = ofOne(at);
                }
            }
            return known(node);
        }

        private static boolean hasWorth(int sort) {
            return (sort >= SUM && sort <= BRACKET) || sort == MISSING;
        }

        private long known(int node) {
            return node >= 0 && node < worths.length ? worths[node] : 0;
        }

        private long ofOne(int node) {
            switch (tree.sortOf(node)) {
                case NUMBER:
                    return ofDigits(tree.firstOf(node), tree.endOf(node));
                case STRING:
                    return tree.endOf(node) - tree.firstOf(node) - 2;
                case BRACKET:
                    return known(tree.kidOf(node, 1));
                case SUM:
                case PRODUCT:
                    return joined(tree.signOf(tree.kidOf(node, 1)), known(tree.kidOf(node, 0)),
                            known(tree.kidOf(node, 2)));
                default:
                    return 0;
            }
        }

        private long ofDigits(int first, int end) {
            long sum = 0;
            for (int at = Math.max(first, end - 9); at < end; at++) {
                sum = sum * 10 + text.at(at) - '0';
            }
            return sum;
        }

        private static long joined(int sign, long left, long right) {
            switch (sign) {
                case '+':
                    return left + right;
                case '-':
                    return left - right;
                case '*':
                    return left * right;
                default:
                    return right == 0 ? 0 : left / right;
            }
        }
    }
}
