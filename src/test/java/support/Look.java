import java.util.ArrayList;
import java.util.List;

/**
 * All that an object answers behind a run of calls, what can be undone and the tape as well. The
 * document promises 512 calls: the run is made again on a new object for each handful of
 * questions, so a run of up to 250 calls stays below that.
 */
final class Look {
    private static final int HANDFUL = 240;

    private final Run run;
    private final List<String> answers = new ArrayList<>();
    private KeptTree asked;
    private int left;

    private Look(Run run) {
        this.run = run;
    }

    static List<String> at(Run run) {
        Look look = new Look(run);
        look.alone();
        look.sizes();
        look.bytesAndLines();
        look.tokens();
        look.nodes();
        look.sorts();
        look.rows();
        look.acts();
        look.add("tape " + textOf(run.and(x -> x.load(x.count(8)))));
        return look.answers;
    }

    /** The text behind a run. */
    static String textOf(Run run) {
        Look look = new Look(run);
        StringBuilder all = new StringBuilder();
        int many = look.x().count(0);
        for (int i = 0; i < many; i++) {
            all.append((char) look.x().octet(i));
        }
        return all.toString();
    }

    /** What differs first between two looks; empty if nothing does. */
    static String difference(List<String> one, List<String> other) {
        for (int i = 0; i < Math.min(one.size(), other.size()); i++) {
            if (!one.get(i).equals(other.get(i))) {
                return one.get(i) + " | " + other.get(i);
            }
        }
        return one.size() == other.size() ? "" : "one look is longer";
    }

    private KeptTree x() {
        if (left == 0) {
            asked = run.made();
            left = HANDFUL;
        }
        left--;
        return asked;
    }

    private void add(String answer) {
        answers.add(answer);
    }

    /** Each of these is the first question of a new object: no other one can have changed its answer. */
    private void alone() {
        add("share first: " + run.made().share());
        add("whole first: " + run.made().whole());
        for (int what = 0; what < 12; what++) {
            add("count " + what + " first: " + run.made().count(what));
        }
        for (int what = 0; what < 4; what++) {
            add("dirty " + what + " first: " + run.made().dirty(what));
            add("greatest " + what + " first: " + run.made().greatest(what));
        }
        for (int sort = 0; sort < 18; sort++) {
            add("lost " + sort + " first: " + run.made().lost(sort));
            add("find " + sort + " first: " + run.made().find(sort, -1));
        }
    }

    private void sizes() {
        for (int what = -1; what <= 12; what++) {
            add("count " + what + ": " + x().count(what));
        }
        for (int what = -1; what <= 4; what++) {
            add("dirty " + what + ": " + x().dirty(what));
            add("greatest " + what + ": " + x().greatest(what));
        }
        add("whole " + x().whole());
        add("share " + x().share());
    }

    private void bytesAndLines() {
        int bytes = x().count(0);
        for (int i = -1; i <= bytes + 1; i++) {
            add("octet " + i + ": " + x().octet(i));
            add("tokenAt " + i + ": " + x().tokenAt(i));
            add("match " + i + ": " + x().match(i));
            add("line " + i + ": " + x().line(i));
            add("column " + i + ": " + x().column(i));
            add("cover " + i + ": " + x().cover(i, i + 1));
            add("cover " + i + " and more: " + x().cover(i, i + 5));
        }
        int lines = x().count(11);
        for (int i = -1; i <= lines; i++) {
            add("begin " + i + ": " + x().begin(i));
            add("begun " + i + ": " + x().begun(i));
            add("level " + i + ": " + x().level(i));
            add("blanks " + i + ": " + x().blanks(i));
        }
    }

    private void tokens() {
        int tokens = x().count(1);
        for (int i = -1; i <= tokens; i++) {
            for (int what = -1; what <= 6; what++) {
                add("token " + i + ", " + what + ": " + x().token(i, what));
            }
        }
    }

    private void nodes() {
        int nodes = x().count(2);
        for (int i = -1; i <= nodes; i++) {
            for (int what = -1; what <= 12; what++) {
                add("node " + i + ", " + what + ": " + x().node(i, what));
            }
            for (int k = -1; k <= 3; k++) {
                add("child " + i + ", " + k + ": " + x().child(i, k));
            }
            int other = (i * 7 + 3) % (nodes + 1);
            add("common " + i + ", " + other + ": " + x().common(i, other));
            add("far " + i + ", " + other + ": " + x().far(i, other));
            add("alike " + i + ", " + other + ": " + x().alike(i, other));
            add("twins " + i + ": " + x().twins(i));
            add("uses " + i + ": " + x().uses(i));
            add("value " + i + ": " + x().value(i));
            add("told " + i + ": " + x().told(i));
        }
    }

    private void sorts() {
        for (int sort = -1; sort <= 18; sort++) {
            add("lost " + sort + ": " + x().lost(sort));
            for (int k = -2; k <= 2; k++) {
                add("find " + sort + ", " + k + ": " + x().find(sort, k));
                add("longest " + sort + ", " + k + ": " + x().longest(sort, k));
            }
        }
    }

    private void rows() {
        int names = x().names(-1);
        for (int k = -2; k <= names; k++) {
            add("names " + k + ": " + x().names(k));
        }
        int items = x().item(-1, 0);
        for (int k = -2; k <= items; k++) {
            for (int what = -1; what <= 3; what++) {
                add("item " + k + ", " + what + ": " + x().item(k, what));
            }
        }
        int wrong = x().count(3) + x().count(4);
        for (int k = -1; k <= wrong; k++) {
            for (int what = -1; what <= 4; what++) {
                add("wrong " + k + ", " + what + ": " + x().wrong(k, what));
            }
        }
    }

    private void acts() {
        int behind = x().count(9);
        for (int k = 1; k <= behind; k++) {
            int steps = k;
            add("undo " + k + ": " + textOf(run.and(y -> times(steps, y, true))));
        }
        int ahead = x().count(10);
        for (int k = 1; k <= ahead; k++) {
            int steps = k;
            add("redo " + k + ": " + textOf(run.and(y -> times(steps, y, false))));
        }
    }

    private static void times(int steps, KeptTree y, boolean back) {
        for (int i = 0; i < steps; i++) {
            if (back) {
                y.undo();
            } else {
                y.redo();
            }
        }
    }
}
