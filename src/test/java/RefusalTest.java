import java.util.ArrayList;
import java.util.List;

/**
 * Calls with all kinds of odd arguments on a new, an ordinary and a full object: none of them throws,
 * and a call that is refused, or only asks, changes nothing. For this the object is compared, by all
 * that can be asked of it, with a twin that has not had the call.
 */
public final class RefusalTest {
    private static final int[] ODD = {
        Integer.MIN_VALUE, Integer.MIN_VALUE + 1, -251, -16, -5, -4, -3, -2, -1, 0, 1, 2, 3, 4, 5, 6, 7, 8, 9,
        10, 11, 14, 15, 16, 17, 249, 250, 251, 252, 65536, Integer.MAX_VALUE - 1, Integer.MAX_VALUE};
    private static final int[] FEW = {Integer.MIN_VALUE, -1, 0, 1, 2, 3, 4, Integer.MAX_VALUE};
    private static final long[] KEYS = {Long.MIN_VALUE, -1, 0, 1, 2, Long.MAX_VALUE};

    private interface Scene {
        LogicalPairs make();
    }

    private interface Call {
        long on(LogicalPairs x);
    }

    private static final List<String> wrong = new ArrayList<>();
    private static int calls = 0;
    private static int refused = 0;

    private final String name;
    private final Scene scene;
    private final int[] segments;
    private final List<Long> before;

    private RefusalTest(String name, Scene scene, int... segments) {
        this.name = name;
        this.scene = scene;
        this.segments = segments;
        this.before = state(scene.make());
    }

    public static void main(String[] args) {
        new RefusalTest("new", LogicalPairs::new).all();
        new RefusalTest("ordinary", RefusalTest::ordinary, 1, 2, 3, 4, 5, 6, 7).all();
        new RefusalTest("full", RefusalTest::full, 1, 2, 249, 250).all();
        wrong.stream().limit(40).forEach(System.out::println);
        System.out.println(calls + " calls, " + refused + " of them refused or asking, " + wrong.size() + " wrong");
        if (!wrong.isEmpty()) {
            System.exit(1);
        }
    }

    /** Some are there, 2 stays, 4 is gone, 6 bars 5, and some pointers are wrong. */
    private static LogicalPairs ordinary() {
        LogicalPairs x = new LogicalPairs();
        x.kind(0);
        x.kind(1);
        x.kind(0);
        x.kind(0);
        x.parent(3, 2, 1);
        x.parent(4, 1, 0);
        x.index(2, true);
        x.index(3, false);
        x.segment(1, 0, 1);
        x.segment(2, 1, 1);
        x.segment(3, 0, 1);
        x.segment(2, 1, 2);
        x.segment(1, 0, 2);
        x.segment(4, 0, 0);
        x.segment(2, 5, -1);
        x.relate(3, 2);
        x.relate(6, 5);
        x.delete(2);
        x.delete(4);
        x.poke(1, 0, 3);
        x.poke(2, 2, 4);
        x.poke(3, 1, 0);
        return x;
    }

    private static LogicalPairs full() {
        LogicalPairs x = new LogicalPairs();
        for (int kind = 1; kind <= 15; kind++) {
            x.kind(kind / 3);
        }
        x.parent(2, 1, 0);
        for (int index = 1; index <= 10; index++) {
            x.index(2, index == 1);
        }
        for (int segment = 1; segment <= 250; segment++) {
            x.segment(1 + segment % 2, 0, segment);
        }
        x.relate(1, 250);
        x.poke(249, 2, 6);
        return x;
    }

    private List<Long> state(LogicalPairs x) {
        List<Long> told = new ArrayList<>();
        for (int what = 0; what <= 5; what++) {
            told.add((long) x.told(what));
        }
        told.add((long) x.check());
        for (int i = 0; i <= 4; i++) {
            told.add((long) x.broken(i));
            told.add((long) x.entry(1, i));
            told.add((long) x.entry(2, i));
        }
        for (int segment : segments) {
            stateOfOne(x, segment, told);
        }
        // What the pointers say and which kinds have logical parents is asked by changing them: last of all.
        for (int segment : segments) {
            for (int pointer = 0; pointer <= 2; pointer++) {
                told.add((long) x.poke(segment, pointer, 0));
            }
        }
        for (int kind = 1; kind <= 15; kind++) {
            told.add((long) x.parent(kind, kind, 1));
        }
        return told;
    }

    private static void stateOfOne(LogicalPairs x, int segment, List<Long> told) {
        told.add(x.there(segment, 0) ? 1L : 0L);
        told.add(x.there(segment, 1) ? 1L : 0L);
        told.add((long) x.count(segment));
        for (int i = 0; i <= 2; i++) {
            told.add((long) x.child(segment, 0, i));
            told.add((long) x.child(segment, 1, i));
        }
    }

    private void one(String call, boolean asks, int least, Call made) {
        calls++;
        LogicalPairs x = scene.make();
        try {
            long answer = made.on(x);
            if (answer < -5) {
                wrong.add(name + ": " + call + " answered " + answer);
            }
            if (asks || answer < least) {
                refused++;
                if (!state(x).equals(before)) {
                    wrong.add(name + ": " + call + " answered " + answer + " and changed something");
                }
            }
        } catch (RuntimeException thrown) {
            wrong.add(name + ": " + call + " threw " + thrown);
        }
    }

    private void changing(String call, Call made) {
        one(call, false, 1, made);
    }

    private void asking(String call, Call made) {
        one(call, true, 1, made);
    }

    private void all() {
        asking("check", LogicalPairs::check);
        for (int a : ODD) {
            ofOne(a);
            for (int b : ODD) {
                ofTwo(a, b);
            }
        }
    }

    private void ofOne(int a) {
        changing("kind " + a, x -> x.kind(a));
        changing("index " + a, x -> x.index(a, false));
        changing("index " + a + " sparse", x -> x.index(a, true));
        changing("delete " + a, x -> x.delete(a));
        asking("count " + a, x -> x.count(a));
        asking("broken " + a, x -> x.broken(a));
        asking("told " + a, x -> x.told(a));
    }

    private void ofTwo(int a, int b) {
        changing("relate " + a + " " + b, x -> x.relate(a, b));
        asking("there " + a + " " + b, x -> x.there(a, b) ? 1 : 0);
        asking("entry " + a + " " + b, x -> x.entry(a, b));
        for (int c : FEW) {
            changing("parent " + a + " " + b + " " + c, x -> x.parent(a, b, c));
            asking("child " + a + " " + b + " " + c, x -> x.child(a, b, c));
            asking("child " + a + " " + c + " " + b, x -> x.child(a, c, b));
        }
        for (long key : KEYS) {
            changing("segment " + a + " " + b + " " + key, x -> x.segment(a, b, key));
        }
        poke(a, b);
    }

    /** A pointer may say what looks like a refusal, so whether it is one is known by the segment. */
    private void poke(int segment, int pointer) {
        LogicalPairs twin = scene.make();
        boolean may = (twin.there(segment, 0) || twin.there(segment, 1)) && pointer >= 0 && pointer <= 2;
        one("poke " + segment + " " + pointer, !may, Integer.MIN_VALUE, x -> x.poke(segment, pointer, 12345));
    }
}
