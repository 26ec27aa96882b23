import java.lang.management.ManagementFactory;
import java.util.Random;

/** That wild calls never throw and always end, and that an object with its 512 calls needs little room. */
public final class RoomTest {
    private static final Checks CHECKS = new Checks();
    private static final int MOST_CALLS = 512;
    // A run of calls has room for 7.3 million fields and elements: four bytes each at the least.
    private static final long ROOM = 4 * 7_300_000L;
    private static final int[] WILD = {0, 1, 2, 3, 5, 9, 12, 17, 18, 20, 40, 299, 300, 301, 1000, 1216, 1217,
        -1, -2, -3, Integer.MAX_VALUE, Integer.MAX_VALUE - 1, Integer.MIN_VALUE, Integer.MIN_VALUE + 1};
    private static final String SIGNS = "ab1=(){};,+-*/'# \nif";

    private final Random chance;
    private final KeptTree x;
    private int calls = 0;
    private int nodes = 1;

    private RoomTest(long seed) {
        this(new KeptTree(), seed);
    }

    public static void main(String[] args) {
        for (int seed = 0; seed < 600; seed++) {
            RoomTest test = new RoomTest(seed);
            // each call is two: how many nodes there are is asked ahead of it
            while (test.calls + 2 <= MOST_CALLS) {
                test.anyCall(test.chance.nextInt(60));
            }
        }
        CHECKS.due("wild calls end", 1, 1);
        room();
        CHECKS.end("RoomTest");
    }

    private static long allocated() {
        return ((com.sun.management.ThreadMXBean) ManagementFactory.getThreadMXBean())
                .getThreadAllocatedBytes(Thread.currentThread().getId());
    }

    private static void room() {
        String[] texts = {";".repeat(300), "a(}".repeat(100), "a=" + "+".repeat(298), "{".repeat(300),
            "a=b;".repeat(75), "f(a,b)".repeat(50), "?".repeat(300), "'".repeat(300), "a ".repeat(150)};
        allocated();
        for (String text : texts) {
            for (int call = 0; call <= 42; call++) {
                long ahead = allocated();
                dear(Texts.of(text), call);
                long made = allocated() - ahead;
                CHECKS.due("512 calls of " + call + " made " + made + " bytes", made < ROOM ? 1 : 0, 1);
            }
        }
    }

    /** As many calls as there may be of one sort, with others between that make it work. */
    private static void dear(KeptTree x, int call) {
        RoomTest test = new RoomTest(x, call);
        while (test.calls + 2 <= MOST_CALLS - 20) {
            test.anyCall(test.chance.nextInt(8) == 0 ? 9 : call);
        }
    }

    private RoomTest(KeptTree itsObject, long seed) {
        x = itsObject;
        chance = new Random(seed);
    }

    private int wild() {
        return chance.nextInt(3) == 0 ? WILD[chance.nextInt(WILD.length)] : chance.nextInt(nodes + 2);
    }

    private int four() {
        int all = 0;
        for (int i = 0; i < 4; i++) {
            all = all << 8 | SIGNS.charAt(chance.nextInt(SIGNS.length()));
        }
        return all;
    }

    private void anyCall(int call) {
        nodes = x.count(2);
        calls += 2;
        switch (call) {
            case 0: x.load(wild()); break;
            case 1: x.edit(wild(), wild(), wild()); break;
            case 2: x.rename(wild(), wild()); break;
            case 3: x.drop(wild()); break;
            case 4: x.wrap(wild()); break;
            case 5: x.swap(wild(), wild()); break;
            case 6: x.copy(wild(), wild()); break;
            case 7: x.unwrap(wild()); break;
            case 8: x.mend(); break;
            case 9: x.undo(); break;
            case 10: x.redo(); break;
            case 11: x.count(wild()); break;
            case 12: x.octet(wild()); break;
            case 13: x.token(wild(), wild()); break;
            case 14: x.tokenAt(wild()); break;
            case 15: x.node(wild(), wild()); break;
            case 16: x.child(wild(), wild()); break;
            case 17: x.find(wild(), wild()); break;
            case 18: x.cover(wild(), wild()); break;
            case 19: x.common(wild(), wild()); break;
            case 20: x.match(wild()); break;
            case 21: x.line(wild()); break;
            case 22: x.column(wild()); break;
            case 23: x.begin(wild()); break;
            case 24: x.begun(wild()); break;
            case 25: x.level(wild()); break;
            case 26: x.blanks(wild()); break;
            case 27: x.alike(wild(), wild()); break;
            case 28: x.twins(wild()); break;
            case 29: x.longest(wild(), wild()); break;
            case 30: x.wrong(wild(), wild()); break;
            case 31: x.dirty(wild()); break;
            case 32: x.lost(wild()); break;
            case 33: x.greatest(wild()); break;
            case 34: x.whole(); break;
            case 35: x.share(); break;
            case 36: x.names(wild()); break;
            case 37: x.uses(wild()); break;
            case 38: x.value(wild()); break;
            case 39: x.told(wild()); break;
            case 40: x.item(wild(), wild()); break;
            case 41: x.far(wild(), wild()); break;
            default: x.feed(four(), four(), four(), four(), four()); break;
        }
    }
}
