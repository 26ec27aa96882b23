import java.util.ArrayDeque;
import java.util.ArrayList;
import java.util.Deque;
import java.util.HashMap;
import java.util.HashSet;
import java.util.IdentityHashMap;
import java.util.LinkedHashSet;
import java.util.List;
import java.util.Map;
import java.util.Set;
import java.util.regex.Matcher;
import java.util.regex.Pattern;

/**
 * The document once more, written in another way (objects, texts, sets, recursion), so that a
 * slip in one of the two shows as a difference.
 */
final class Model {
    static final class Tok {
        int sort;
        int first;
        String bytes;
        int read;
        boolean kept;
        Tok origin;

        int end() {
            return first + bytes.length();
        }
    }

    static final class Nod {
        final int sort;
        final List<Nod> kids = new ArrayList<>();
        final List<Tok> toks = new ArrayList<>();
        final String sign;
        final int ahead;
        Nod up;
        int place;
        int id;
        int depth;
        boolean kept;

        Nod(int sort, String sign, int ahead) {
            this.sort = sort;
            this.sign = sign;
            this.ahead = ahead;
        }

        int all() {
            int n = 1;
            for (Nod kid : kids) {
                n += kid.all();
            }
            return n;
        }
    }

    private static final Pattern TOKEN = Pattern.compile(
            "(?<skip>[ \n]|#[^\n]*)|(?<word>[a-z]+)|(?<number>[0-9]+)|(?<string>'[^'\n]*')"
            + "|(?<mark>[=(){};,+\\-*/])|(?<stray>.)", Pattern.DOTALL);
    private static final Set<String> KEYS = Set.of("if", "else", "while");
    private static final Set<Integer> ITEMS = Set.of(2, 3, 5, 6, 7, 8, 9);

    String text = "";
    String tape = "";
    private final Deque<String> undos = new ArrayDeque<>();
    private final Deque<String> redos = new ArrayDeque<>();
    private List<Tok> toks = new ArrayList<>();
    private List<Nod> nods = new ArrayList<>();
    private Map<Integer, Integer> were = new HashMap<>();
    private long sharedKept = 0;
    private long sharedAll = 0;
    private int at;

    Model() {
        parse();
    }

    // ---- reading

    private void lex() {
        toks = new ArrayList<>();
        Matcher m = TOKEN.matcher(text);
        int pos = 0;
        while (pos < text.length()) {
            m.region(pos, text.length());
            if (!m.lookingAt()) {
                throw new IllegalStateException("no token at " + pos);
            }
            if (m.group("skip") == null) {
                Tok t = new Tok();
                t.first = pos;
                t.bytes = m.group();
                t.sort = m.group("word") != null ? 0 : m.group("number") != null ? 1
                        : m.group("string") != null ? 2 : m.group("mark") != null ? 3 : 4;
                t.read = t.end() - 1;
                if (t.sort <= 1) {
                    t.read++;
                }
                if (t.sort == 4 && t.bytes.equals("'")) {
                    int nl = text.indexOf('\n', pos);
                    t.read = nl < 0 ? text.length() : nl;
                }
                toks.add(t);
            }
            pos = m.end();
        }
    }

    private String peek(int k) {
        return at + k < toks.size() ? toks.get(at + k).bytes : "";
    }

    private int peekSort() {
        return at < toks.size() ? toks.get(at).sort : -1;
    }

    private boolean next(String mark) {
        return peekSort() == 3 && peek(0).equals(mark);
    }

    private boolean nextWord() {
        return peekSort() == 0;
    }

    private Nod leaf(int sort) {
        Nod n = new Nod(sort, "", at);
        n.toks.add(toks.get(at));
        at++;
        return n;
    }

    private Nod missing(String sign) {
        return new Nod(17, sign, at);
    }

    private Nod sign(String s) {
        return next(s) ? leaf(16) : missing(s);
    }

    private void parse() {
        lex();
        at = 0;
        Nod file = new Nod(0, "", 0);
        List<Nod> items = new ArrayList<>();
        while (at < toks.size()) {
            items.add(item(0));
        }
        put(file, repeat(items));
        nods = new ArrayList<>();
        number(file, null, 1);
    }

    private static void put(Nod up, Nod kid) {
        if (kid != null) {
            up.kids.add(kid);
            up.toks.addAll(kid.toks);
        }
    }

    private static Nod repeat(List<Nod> items) {
        if (items.isEmpty()) {
            return null;
        }
        if (items.size() == 1) {
            return items.get(0);
        }
        int half = 1;
        while (half * 2 < items.size()) {
            half *= 2;
        }
        Nod n = new Nod(1, "", items.get(0).ahead);
        put(n, repeat(items.subList(0, half)));
        put(n, repeat(items.subList(half, items.size())));
        return n;
    }

    private Nod item(int nest) {
        String b = peek(0);
        if (nextWord() && nest < 10 && (b.equals("if") || b.equals("while"))) {
            Nod n = new Nod(b.equals("if") ? 6 : 7, "", at);
            put(n, leaf(16));
            put(n, expression(nest + 1));
            put(n, body(nest + 1));
            if (b.equals("if") && nextWord() && peek(0).equals("else")) {
                put(n, leaf(16));
                put(n, body(nest + 1));
            }
            return n;
        }
        if (nextWord() && !KEYS.contains(b) && peek(1).equals("=")) {
            Nod n = new Nod(2, "", at);
            put(n, leaf(12));
            put(n, leaf(16));
            put(n, expression(nest));
            put(n, sign(";"));
            return n;
        }
        if (nextWord() && !KEYS.contains(b) && peek(1).equals("(")) {
            Nod n = new Nod(3, "", at);
            put(n, leaf(12));
            put(n, leaf(16));
            if (!next(")")) {
                Nod list = new Nod(4, "", at);
                put(list, expression(nest));
                while (next(",")) {
                    put(list, leaf(16));
                    put(list, expression(nest));
                }
                put(n, list);
            }
            put(n, sign(")"));
            put(n, sign(";"));
            return n;
        }
        if (next("{") && nest < 10) {
            Nod n = new Nod(5, "", at);
            put(n, leaf(16));
            List<Nod> items = new ArrayList<>();
            while (at < toks.size() && !next("}")) {
                items.add(item(nest + 1));
            }
            put(n, repeat(items));
            put(n, sign("}"));
            return n;
        }
        return leaf(next(";") ? 8 : 9);
    }

    private Nod body(int nest) {
        boolean word = nextWord() && !peek(0).equals("else");
        return word || next("{") || next(";") ? item(nest) : missing("");
    }

    private Nod expression(int nest) {
        Nod all = term(nest);
        while (next("+") || next("-")) {
            Nod n = new Nod(10, "", all.ahead);
            put(n, all);
            put(n, leaf(16));
            put(n, term(nest));
            all = n;
        }
        return all;
    }

    private Nod term(int nest) {
        Nod all = part(nest);
        while (next("*") || next("/")) {
            Nod n = new Nod(11, "", all.ahead);
            put(n, all);
            put(n, leaf(16));
            put(n, part(nest));
            all = n;
        }
        return all;
    }

    private Nod part(int nest) {
        if (nextWord() && !KEYS.contains(peek(0))) {
            return leaf(12);
        }
        if (peekSort() == 1) {
            return leaf(13);
        }
        if (peekSort() == 2) {
            return leaf(14);
        }
        if (next("(") && nest < 10) {
            Nod n = new Nod(15, "", at);
            put(n, leaf(16));
            put(n, expression(nest + 1));
            put(n, sign(")"));
            return n;
        }
        return missing("");
    }

    private void number(Nod n, Nod up, int depth) {
        n.id = nods.size();
        n.up = up;
        n.depth = depth;
        n.place = n.ahead == 0 ? 0 : toks.get(n.ahead - 1).end();
        nods.add(n);
        for (Nod kid : n.kids) {
            number(kid, n, depth + 1);
        }
    }

    private int first(Nod n) {
        return n.sort == 0 ? 0 : n.toks.isEmpty() ? n.place : n.toks.get(0).first;
    }

    private int end(Nod n) {
        return n.sort == 0 ? text.length() : n.toks.isEmpty() ? n.place : n.toks.get(n.toks.size() - 1).end();
    }

    private String bytes(Nod n) {
        return text.substring(first(n), end(n));
    }

    // ---- acts

    private void push() {
        undos.push(text);
        while (undos.size() > 12) {
            undos.removeLast();
        }
        redos.clear();
    }

    private void anew(String to) {
        were = new HashMap<>();
        for (Nod n : nods) {
            were.merge(n.sort, 1, Integer::sum);
        }
        text = to;
        parse();
    }

    private int change(int a, int b, String by) {
        List<Tok> oldToks = toks;
        List<Nod> oldNods = nods;
        push();
        anew(text.substring(0, a) + by + text.substring(b));
        int more = by.length() - (b - a);
        for (Tok t : toks) {
            for (Tok o : oldToks) {
                if (o.sort != t.sort || o.bytes.length() != t.bytes.length()) {
                    continue;
                }
                if ((o.read < a && o.first == t.first) || (o.first >= b && o.first + more == t.first)) {
                    t.kept = true;
                    t.origin = o;
                }
            }
        }
        Set<String> had = new HashSet<>();
        Map<Tok, Integer> number = new IdentityHashMap<>();
        for (Tok o : oldToks) {
            number.put(o, number.size());
        }
        for (Nod o : oldNods) {
            StringBuilder key = new StringBuilder().append(o.sort).append(':');
            for (Tok t : o.toks) {
                key.append(number.get(t)).append(',');
            }
            had.add(key.toString());
        }
        for (Nod n : nods) {
            StringBuilder key = new StringBuilder().append(n.sort).append(':');
            boolean all = n.sort != 0 && !n.toks.isEmpty();
            for (Tok t : n.toks) {
                all &= t.kept;
                key.append(t.kept ? number.get(t.origin) : -1).append(',');
            }
            n.kept = all && had.contains(key.toString());
        }
        sharedKept += keptNodes();
        sharedAll += nods.size();
        return keptNodes();
    }

    private int keptNodes() {
        int n = 0;
        for (Nod nod : nods) {
            n += nod.kept ? 1 : 0;
        }
        return n;
    }

    int feed(int a, int b, int c, int d, int e) {
        if (tape.length() > 280) {
            return -1;
        }
        for (int four : new int[] {a, b, c, d, e}) {
            for (int k = 3; k >= 0; k--) {
                tape += (char) (four >> 8 * k & 255);
            }
        }
        return tape.length();
    }

    int load(int n) {
        if (n < 0 || n > tape.length()) {
            return -1;
        }
        push();
        anew(tape.substring(0, n));
        tape = "";
        sharedKept = 0;
        sharedAll = 0;
        return toks.size();
    }

    int edit(int a, int b, int n) {
        if (a < 0 || b < a || b > text.length() || n < 0 || n > tape.length()) {
            return -1;
        }
        if (text.length() - (b - a) + n > 300) {
            return -2;
        }
        String by = tape.substring(0, n);
        tape = "";
        return change(a, b, by);
    }

    private boolean no(int node) {
        return node < 0 || node >= nods.size();
    }

    private boolean noItem(int node) {
        return no(node) || !ITEMS.contains(nods.get(node).sort);
    }

    private boolean noName(int node) {
        return no(node) || nods.get(node).sort != 12;
    }

    private List<Nod> sameNames(int node) {
        List<Nod> same = new ArrayList<>();
        for (Nod n : nods) {
            if (n.sort == 12 && bytes(n).equals(bytes(nods.get(node)))) {
                same.add(n);
            }
        }
        return same;
    }

    int rename(int node, int n) {
        if (noName(node) || n < 1 || n > tape.length() || !tape.substring(0, n).matches("[a-z]+")) {
            return -1;
        }
        String to = tape.substring(0, n);
        List<Nod> same = sameNames(node);
        String old = bytes(nods.get(node));
        if (text.length() + same.size() * (n - old.length()) > 300) {
            return -2;
        }
        if (KEYS.contains(to) || to.equals(old)) {
            return -3;
        }
        int a = first(same.get(0));
        int b = end(same.get(same.size() - 1));
        String by = "";
        int done = a;
        for (Nod one : same) {
            by += text.substring(done, first(one)) + to;
            done = end(one);
        }
        tape = "";
        change(a, b, by);
        return same.size();
    }

    int drop(int node) {
        if (noItem(node)) {
            return -1;
        }
        Nod n = nods.get(node);
        int many = bytes(n).length();
        change(first(n), end(n), "");
        return many;
    }

    int wrap(int node) {
        if (noItem(node)) {
            return -1;
        }
        Nod n = nods.get(node);
        return text.length() > 298 ? -2 : change(first(n), end(n), "{" + bytes(n) + "}");
    }

    private boolean inside(Nod n, Nod around) {
        return n != null && (n == around || inside(n.up, around));
    }

    int swap(int one, int other) {
        if (noItem(one) || noItem(other) || one == other) {
            return -1;
        }
        Nod a = nods.get(one);
        Nod b = nods.get(other);
        if (inside(a, b) || inside(b, a)) {
            return -2;
        }
        if (first(a) > first(b)) {
            Nod c = a;
            a = b;
            b = c;
        }
        return change(first(a), end(b), bytes(b) + text.substring(end(a), first(b)) + bytes(a));
    }

    int copy(int one, int other) {
        if (noItem(one) || noItem(other)) {
            return -1;
        }
        String by = bytes(nods.get(one));
        int a = first(nods.get(other));
        return text.length() + by.length() > 300 ? -2 : change(a, a, by);
    }

    int unwrap(int node) {
        if (no(node) || nods.get(node).sort != 5) {
            return -1;
        }
        Nod n = nods.get(node);
        boolean shut = n.kids.get(n.kids.size() - 1).sort == 16;
        String b = bytes(n);
        return change(first(n), end(n), b.substring(1, b.length() - (shut ? 1 : 0)));
    }

    int mend() {
        String by = "";
        int a = -1;
        int b = -1;
        int many = 0;
        for (Nod n : nods) {
            if (n.sort == 9 || (n.sort == 17 && !n.sign.isEmpty())) {
                if (many == 0) {
                    a = first(n);
                    b = a;
                }
                by += text.substring(b, first(n)) + n.sign;
                b = end(n);
                many++;
            }
        }
        if (many == 0) {
            return -1;
        }
        if (text.length() - (b - a) + by.length() > 300) {
            return -2;
        }
        change(a, b, by);
        return many;
    }

    int undo() {
        if (undos.isEmpty()) {
            return -1;
        }
        redos.push(text);
        anew(undos.pop());
        return undos.size();
    }

    int redo() {
        if (redos.isEmpty()) {
            return -1;
        }
        undos.push(text);
        anew(redos.pop());
        return redos.size();
    }

    // ---- what there is

    private String[] lines() {
        return text.split("\n", -1);
    }

    int count(int what) {
        int deep = 0;
        int errors = 0;
        int missing = 0;
        for (Nod n : nods) {
            deep = Math.max(deep, n.depth);
            errors += n.sort == 9 ? 1 : 0;
            missing += n.sort == 17 ? 1 : 0;
        }
        int[] all = {text.length(), toks.size(), nods.size(), errors, missing, deep,
            toks.size() - dirty(2), keptNodes(), tape.length(), undos.size(), redos.size(), lines().length};
        return what < 0 || what >= all.length ? -1 : all[what];
    }

    int octet(int i) {
        return i < 0 || i >= text.length() ? -1 : text.charAt(i);
    }

    int token(int token, int what) {
        if (token < 0 || token >= toks.size() || what < 0 || what > 5) {
            return -1;
        }
        Tok t = toks.get(token);
        int leaf = -9;
        for (Nod n : nods) {
            if (n.kids.isEmpty() && n.toks.contains(t)) {
                leaf = n.id;
            }
        }
        return new int[] {t.sort, t.first, t.bytes.length(), t.read, t.kept ? 1 : 0, leaf}[what];
    }

    int tokenAt(int i) {
        if (i < 0 || i >= text.length()) {
            return -1;
        }
        for (int k = 0; k < toks.size(); k++) {
            if (toks.get(k).first <= i && i < toks.get(k).end()) {
                return k;
            }
        }
        return -2;
    }

    int node(int node, int what) {
        if (no(node) || what < 0 || what > 11) {
            return -1;
        }
        Nod n = nods.get(node);
        int next = -2;
        if (n.up != null) {
            int k = n.up.kids.indexOf(n);
            next = k + 1 < n.up.kids.size() ? n.up.kids.get(k + 1).id : -2;
        }
        return new int[] {n.sort, first(n), end(n), n.up == null ? -2 : n.up.id, n.kids.size(),
            n.kids.isEmpty() ? -2 : n.kids.get(0).id, next, n.depth, n.kept ? 1 : 0,
            n.toks.isEmpty() ? -2 : toks.indexOf(n.toks.get(0)), n.toks.size(), n.all()}[what];
    }

    int child(int node, int k) {
        if (no(node) || k < 0) {
            return -1;
        }
        List<Nod> kids = nods.get(node).kids;
        return k < kids.size() ? kids.get(k).id : -2;
    }

    private static int pick(List<Integer> all, int k) {
        return k == -1 ? all.size() : k < all.size() ? all.get(k) : -2;
    }

    int find(int sort, int k) {
        if (sort < 0 || sort > 17 || k < -1) {
            return -1;
        }
        List<Integer> all = new ArrayList<>();
        for (Nod n : nods) {
            if (n.sort == sort) {
                all.add(n.id);
            }
        }
        return pick(all, k);
    }

    // ---- by bytes

    int cover(int a, int b) {
        if (a < 0 || b <= a || b > text.length()) {
            return -1;
        }
        Nod best = nods.get(0);
        for (Nod n : nods) {
            if (!n.toks.isEmpty() && first(n) <= a && b <= end(n) && n.depth > best.depth) {
                best = n;
            }
        }
        return best.id;
    }

    int common(int one, int other) {
        if (no(one) || no(other)) {
            return -1;
        }
        Nod n = nods.get(one);
        while (!inside(nods.get(other), n)) {
            n = n.up;
        }
        return n.id;
    }

    int match(int i) {
        int t = tokenAt(i);
        if (t < 0) {
            return -1;
        }
        Nod leaf = nods.get(token(t, 5));
        if (leaf.sort != 16) {
            return -1;
        }
        List<Nod> kids = leaf.up.kids;
        int open = leaf.up.sort == 3 ? 1 : 0;
        int close = leaf.up.sort == 3 ? kids.size() - 2 : kids.size() - 1;
        if (leaf.up.sort != 3 && leaf.up.sort != 5 && leaf.up.sort != 15) {
            return -1;
        }
        if (leaf == kids.get(open)) {
            return kids.get(close).sort == 17 ? -2 : first(kids.get(close));
        }
        return leaf == kids.get(close) ? first(kids.get(open)) : -1;
    }

    int line(int i) {
        return i < 0 || i > text.length() ? -1 : text.substring(0, i).split("\n", -1).length - 1;
    }

    int column(int i) {
        return i < 0 || i > text.length() ? -1 : i - (text.lastIndexOf('\n', i - 1) + 1);
    }

    int begin(int line) {
        String[] lines = lines();
        if (line < 0 || line >= lines.length) {
            return -1;
        }
        int at = 0;
        for (int k = 0; k < line; k++) {
            at += lines[k].length() + 1;
        }
        return at;
    }

    int begun(int line) {
        if (begin(line) < 0) {
            return -1;
        }
        int many = 0;
        for (Nod n : nods) {
            many += line(first(n)) == line ? 1 : 0;
        }
        return many;
    }

    int level(int line) {
        int b = begin(line);
        if (b < 0) {
            return -1;
        }
        int many = 0;
        for (Nod n : nods) {
            many += n.sort == 5 && first(n) < b && end(n) - 1 >= b ? 1 : 0;
        }
        return many;
    }

    int blanks(int line) {
        if (begin(line) < 0) {
            return -1;
        }
        return lines()[line].length() - lines()[line].replaceFirst("^ +", "").length();
    }

    // ---- alike

    private String shape(Nod n) {
        StringBuilder all = new StringBuilder("<").append(n.sort);
        if (n.kids.isEmpty() && n.sort != 0) {
            all.append(n.sort == 17 ? "?" + n.sign : "!" + bytes(n));
        }
        for (Nod kid : n.kids) {
            all.append(shape(kid));
        }
        return all.append(">").toString();
    }

    int alike(int one, int other) {
        if (no(one) || no(other)) {
            return -1;
        }
        return shape(nods.get(one)).equals(shape(nods.get(other))) ? 1 : 0;
    }

    int twins(int node) {
        if (no(node)) {
            return -1;
        }
        int many = 0;
        String own = shape(nods.get(node));
        for (Nod n : nods) {
            many += shape(n).equals(own) ? 1 : 0;
        }
        return many;
    }

    private int longest(List<Nod> all, int what) {
        Nod best = null;
        for (Nod n : all) {
            if (best == null || n.toks.size() > best.toks.size()) {
                best = n;
            }
        }
        return best == null ? -2 : what == 0 ? best.id : best.toks.size();
    }

    int longest(int sort, int what) {
        if (sort < 0 || sort > 17 || what < 0 || what > 1) {
            return -1;
        }
        List<Nod> all = new ArrayList<>(nods);
        all.removeIf(n -> n.sort != sort);
        return longest(all, what);
    }

    // ---- wrong, dirty, lost

    int wrong(int k, int what) {
        if (k < 0 || what < 0 || what > 3) {
            return -1;
        }
        List<Nod> all = new ArrayList<>(nods);
        all.removeIf(n -> n.sort != 9 && n.sort != 17);
        if (k >= all.size()) {
            return -2;
        }
        Nod n = all.get(k);
        return new int[] {n.id, first(n), line(first(n)), n.ahead}[what];
    }

    int dirty(int what) {
        List<Integer> all = new ArrayList<>();
        for (int k = 0; k < toks.size(); k++) {
            if (!toks.get(k).kept) {
                all.add(k);
            }
        }
        if (what < 0 || what > 3) {
            return -1;
        }
        if (all.isEmpty()) {
            return what < 2 ? -2 : 0;
        }
        int first = all.get(0);
        int last = all.get(all.size() - 1);
        return new int[] {first, last, all.size(), last - first + 1}[what];
    }

    int lost(int sort) {
        if (sort < 0 || sort > 17) {
            return -1;
        }
        int n = were.getOrDefault(sort, 0);
        for (Nod nod : nods) {
            n -= nod.kept && nod.sort == sort ? 1 : 0;
        }
        return n;
    }

    int greatest(int what) {
        List<Nod> all = new ArrayList<>(nods);
        all.removeIf(n -> !n.kept);
        return what < 0 || what > 1 ? -1 : longest(all, what);
    }

    int whole() {
        int many = 0;
        for (Nod n : nods) {
            boolean within = false;
            for (Nod up = n.up; up != null; up = up.up) {
                within |= up.kept;
            }
            many += n.kept && !within ? 1 : 0;
        }
        return many;
    }

    int share() {
        return sharedAll == 0 ? -2 : (int) (100 * sharedKept / sharedAll);
    }

    // ---- names, values

    int names(int k) {
        if (k < -1) {
            return -1;
        }
        Set<String> seen = new LinkedHashSet<>();
        List<Integer> all = new ArrayList<>();
        for (Nod n : nods) {
            if (n.sort == 12 && seen.add(bytes(n))) {
                all.add(n.id);
            }
        }
        return pick(all, k);
    }

    int uses(int node) {
        return noName(node) ? -1 : sameNames(node).size();
    }

    long value(int node) {
        return no(node) ? Long.MIN_VALUE : value(nods.get(node));
    }

    private long value(Nod n) {
        switch (n.sort) {
            case 10:
            case 11:
                long l = value(n.kids.get(0));
                long r = value(n.kids.get(2));
                switch (bytes(n.kids.get(1))) {
                    case "+":
                        return l + r;
                    case "-":
                        return l - r;
                    case "*":
                        return l * r;
                    default:
                        return r == 0 ? 0 : l / r;
                }
            case 12:
            case 17:
                return 0;
            case 13:
                String d = bytes(n);
                return Long.parseLong(d.length() > 9 ? d.substring(d.length() - 9) : d);
            case 14:
                return bytes(n).length() - 2;
            case 15:
                return value(n.kids.get(1));
            default:
                return Long.MIN_VALUE;
        }
    }

    int told(int node) {
        if (noName(node)) {
            return -1;
        }
        Nod name = nods.get(node);
        int found = -2;
        for (Nod n : nods) {
            if (n.sort == 2 && bytes(n.kids.get(0)).equals(bytes(name)) && end(n) <= first(name)) {
                found = n.id;
            }
        }
        return found;
    }

    int item(int k, int what) {
        List<Nod> all = new ArrayList<>(nods);
        all.removeIf(n -> !ITEMS.contains(n.sort));
        if (k == -1) {
            return all.size();
        }
        if (k < -1 || what < 0 || what > 2) {
            return -1;
        }
        if (k >= all.size()) {
            return -2;
        }
        int blocks = 0;
        int branches = 0;
        for (Nod up = all.get(k).up; up != null; up = up.up) {
            blocks += up.sort == 5 ? 1 : 0;
            branches += up.sort == 6 || up.sort == 7 ? 1 : 0;
        }
        return new int[] {all.get(k).id, blocks, branches}[what];
    }

    int far(int one, int other) {
        if (no(one) || no(other)) {
            return -1;
        }
        Nod c = nods.get(common(one, other));
        int steps = 0;
        for (Nod n = nods.get(one); n != c; n = n.up) {
            steps++;
        }
        for (Nod n = nods.get(other); n != c; n = n.up) {
            steps++;
        }
        return steps;
    }
}
