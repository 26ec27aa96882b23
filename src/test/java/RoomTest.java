import java.lang.management.ManagementFactory;
import java.util.Random;

/** That the calls make no objects, that an object is small, and that wild calls never throw. */
public final class RoomTest {
    private static final Checks CHECKS = new Checks();
    private static final int[] WILD = {0, 1, 2, 3, 5, 9, 12, 17, 18, 20, 40, 299, 300, 301, 1000, 1216, 1217,
        -1, -2, -3, Integer.MAX_VALUE, Integer.MAX_VALUE - 1, Integer.MIN_VALUE, Integer.MIN_VALUE + 1};
    private static final String SIGNS = "ab1=(){};,+-*/'# \nif";

    private final Random chance;
    private final KeptTree x = new KeptTree();

    private RoomTest(long seed) {
        chance = new Random(seed);
    }

    public static void main(String[] args) {
        for (int seed = 0; seed < 400; seed++) {
            RoomTest test = new RoomTest(seed);
            for (int call = 0; call < 512; call++) {
                test.anyCall(chance(test));
            }
        }
        CHECKS.due("wild calls end", 1, 1);
        room();
        CHECKS.end("RoomTest");
    }

    private static int chance(RoomTest test) {
        return test.chance.nextInt(60);
    }

    private static void room() {
        com.sun.management.ThreadMXBean threads =
                (com.sun.management.ThreadMXBean) ManagementFactory.getThreadMXBean();
        long self = Thread.currentThread().getId();
        RoomTest test = new RoomTest(7);
        // what the test itself makes is made ahead of the calls
        int[] calls = new int[20000];
        for (int i = 0; i < calls.length; i++) {
            calls[i] = test.chance.nextInt(60);
        }
        test.anyCall(0);
        long before = threads.getThreadAllocatedBytes(self);
        long again = threads.getThreadAllocatedBytes(self);
        for (int call : calls) {
            test.anyCall(call);
        }
        long made = threads.getThreadAllocatedBytes(self) - again - (again - before);
        CHECKS.due("20000 calls made " + made + " bytes, none is due: less than 1000", made < 1000 ? 1 : 0, 1);
        long ahead = threads.getThreadAllocatedBytes(self);
        KeptTree one = new KeptTree();
        long size = threads.getThreadAllocatedBytes(self) - ahead;
        CHECKS.due("an object of " + size + " bytes is below 200000", one.count(2) == 1 && size < 200000 ? 1 : 0, 1);
    }

    private int wild() {
        return chance.nextInt(3) == 0 ? WILD[chance.nextInt(WILD.length)] : chance.nextInt(Math.max(1, x.count(2) + 2));
    }

    private int four() {
        int all = 0;
        for (int i = 0; i < 4; i++) {
            all = all << 8 | SIGNS.charAt(chance.nextInt(SIGNS.length()));
        }
        return all;
    }

    private void anyCall(int call) {
        switch (call) {
            case 0: x.load(wild()); break;
            case 1: x.edit(wild(), wild(), wild()); break;
            case 2: x.rename(wild(), wild()); break;
            case 3: x.drop(wild()); break;
            case 4: x.wrap(wild()); break;
            case 5: x.swap(wild(), wild()); break;
            case 6: x.copy(wild(), wild()); break;
            case 7: x.unwrap(wild()); break;
            case 8: x.mend(); break;
            case 9: x.undo(); break;
            case 10: x.redo(); break;
            case 11: x.count(wild()); break;
            case 12: x.octet(wild()); break;
            case 13: x.token(wild(), wild()); break;
            case 14: x.tokenAt(wild()); break;
            case 15: x.node(wild(), wild()); break;
            case 16: x.child(wild(), wild()); break;
            case 17: x.find(wild(), wild()); break;
            case 18: x.cover(wild(), wild()); break;
            case 19: x.common(wild(), wild()); break;
            case 20: x.match(wild()); break;
            case 21: x.line(wild()); break;
            case 22: x.column(wild()); break;
            case 23: x.begin(wild()); break;
            case 24: x.begun(wild()); break;
            case 25: x.level(wild()); break;
            case 26: x.blanks(wild()); break;
            case 27: x.alike(wild(), wild()); break;
            case 28: x.twins(wild()); break;
            case 29: x.longest(wild(), wild()); break;
            case 30: x.wrong(wild(), wild()); break;
            case 31: x.dirty(wild()); break;
            case 32: x.lost(wild()); break;
            case 33: x.greatest(wild()); break;
            case 34: x.whole(); break;
            case 35: x.share(); break;
            case 36: x.names(wild()); break;
            case 37: x.uses(wild()); break;
            case 38: x.value(wild()); break;
            case 39: x.told(wild()); break;
            case 40: x.item(wild(), wild()); break;
            case 41: x.far(wild(), wild()); break;
            default: x.feed(four(), four(), four(), four(), four()); break;
        }
    }
}
