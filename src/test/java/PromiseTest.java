/** For each promise of the document: ordinary inputs, the edges that it names, and wrong inputs. */
public final class PromiseTest {
    private static final int LOW = Integer.MIN_VALUE;
    private static final int HIGH = Integer.MAX_VALUE;
    private static int wrong = 0;
    private static int promise = 0;

    private static void due(String what, long got, long want) {
        if (got != want) {
            wrong++;
            System.out.println("promise " + promise + ": " + what + ": answered " + got + ", due is " + want);
        }
    }

    private static void due(String what, boolean got, boolean want) {
        due(what, got ? 1 : 0, want ? 1 : 0);
    }

    public static void main(String[] args) {
        newObject();
        kind();
        parent();
        segment();
        segmentLimit();
        relate();
        delete();
        deleteByRules();
        deleteGathersFirst();
        deleteAndStay();
        fullObject();
        there();
        childPhysical();
        childLogical();
        count();
        index();
        entry();
        poke();
        check();
        pointersSetRight();
        broken();
        told();
        System.out.println(wrong == 0 ? "all answers are as due" : wrong + " answers are not as due");
        if (wrong != 0) {
            System.exit(1);
        }
    }

    private static void newObject() {
        promise = 1;
        LogicalPairs x = new LogicalPairs();
        for (int what = 0; what <= 5; what++) {
            due("told(" + what + ") of a new object", x.told(what), 0);
        }
        due("check", x.check(), 0);
        due("broken", x.broken(0), 0);
        due("segment of no kind", x.segment(1, 0, 1), -2);
        x.kind(0);
        x.segment(1, 0, 1);
        due("a second object has nothing of the first", new LogicalPairs().told(1), 0);
        due("NONE", LogicalPairs.NONE, -1);
    }

    private static void kind() {
        promise = 2;
        LogicalPairs x = new LogicalPairs();
        due("below itself to be", x.kind(1), -2);
        due("first", x.kind(0), 1);
        due("below the first", x.kind(1), 2);
        due("below the second", x.kind(2), 3);
        due("below the next", x.kind(4), -2);
        due("below -1", x.kind(-1), -2);
        due("lowest", x.kind(LOW), -2);
        due("highest", x.kind(HIGH), -2);
        due("refused ones make no kind", x.told(0), 3);
        for (int number = 4; number <= 15; number++) {
            due("kind " + number, x.kind(number - 1), number);
        }
        due("sixteenth", x.kind(0), LogicalPairs.NONE);
        due("sixteenth below the last", x.kind(15), LogicalPairs.NONE);
        due("no such kind comes before NONE", x.kind(16), -2);
        due("kinds", x.told(0), 15);
    }

    private static void parent() {
        promise = 3;
        LogicalPairs x = new LogicalPairs();
        x.kind(0);
        x.kind(0);
        x.kind(0);
        due("kind 0", x.parent(0, 1, 0), -2);
        due("kind 4", x.parent(4, 1, 0), -2);
        due("other 0", x.parent(1, 0, 0), -2);
        due("other 4", x.parent(1, 4, 0), -2);
        due("lowest", x.parent(LOW, LOW, 0), -2);
        due("highest", x.parent(HIGH, HIGH, 0), -2);
        due("-2 before -4", x.parent(4, 1, 3), -2);
        due("rule 3", x.parent(1, 2, 3), -4);
        due("rule -1", x.parent(1, 2, -1), -4);
        due("rule 2", x.parent(1, 2, 2), 1);
        due("again", x.parent(1, 3, 1), 0);
        due("-4 before 0", x.parent(1, 3, 3), -4);
        due("its own", x.parent(2, 2, 1), 1);
        x.segment(1, 0, 1);
        due("-5 before 0", x.parent(1, 2, 2), -5);
        due("-4 before -5", x.parent(1, 2, 9), -4);
        due("-2 before -5", x.parent(1, 9, 2), -2);
        x.segment(3, 0, 1);
        x.delete(2);
        due("there were segments, though gone", x.parent(3, 1, 0), -5);
        due("a refused one is not kept", x.relate(2, 1), -4);
    }

    private static void segment() {
        promise = 4;
        LogicalPairs x = new LogicalPairs();
        x.kind(0);
        x.kind(1);
        x.kind(1);
        x.kind(0);
        due("kind 0", x.segment(0, 0, 1), -2);
        due("kind 5", x.segment(5, 0, 1), -2);
        due("lowest kind", x.segment(LOW, LOW, 1), -2);
        due("root", x.segment(1, 0, 7), 1);
        due("root under one", x.segment(4, 1, 7), -4);
        due("child under none", x.segment(2, 0, 7), -4);
        due("child under -1", x.segment(2, -1, 7), -4);
        due("child under highest", x.segment(2, HIGH, 7), -4);
        due("child under lowest", x.segment(2, LOW, 7), -4);
        due("child under the next", x.segment(2, 2, 7), -4);
        due("child", x.segment(2, 1, 7), 2);
        due("under one of another kind", x.segment(3, 2, 7), -4);
        due("same key, other kind", x.segment(3, 1, 7), 3);
        due("same key and kind", x.segment(2, 1, 7), -3);
        due("same root key", x.segment(1, 0, 7), -3);
        due("same key, other root kind", x.segment(4, 0, 7), 4);
        due("another root", x.segment(1, 0, Long.MIN_VALUE), 5);
        due("same key under another", x.segment(2, 5, 7), 6);
        due("keys differ in high bits", x.segment(2, 5, 7L + (1L << 32)), 7);
        due("-4 before -3", x.segment(2, 4, 7), -4);
        x.delete(2);
        due("a deleted one's key is free", x.segment(2, 1, 7), 8);
        x.delete(5);
        due("under a deleted one", x.segment(2, 5, 9), -4);
        due("made", x.told(1), 8);
    }

    private static void segmentLimit() {
        promise = 4;
        LogicalPairs x = new LogicalPairs();
        x.kind(0);
        x.kind(1);
        for (int number = 1; number <= 250; number++) {
            due("segment " + number, x.segment(1, 0, -number), number);
        }
        due("the 251st", x.segment(1, 0, 0), LogicalPairs.NONE);
        due("-2 before NONE", x.segment(3, 0, 0), -2);
        due("-4 before NONE", x.segment(2, 0, 0), -4);
        due("-3 before NONE", x.segment(1, 0, -250), -3);
        due("delete the last", x.delete(250), 1);
        due("there were 250", x.segment(1, 0, -250), LogicalPairs.NONE);
        due("made", x.told(1), 250);
        due("there", x.told(2), 249);
    }

    /** Kind 1 and, with it as logical parent, kinds 2, 3 and 4 with the rules 0, 1 and 2. */
    private static LogicalPairs withRules() {
        LogicalPairs x = new LogicalPairs();
        x.kind(0);
        for (int rule = 0; rule <= 2; rule++) {
            x.kind(0);
            x.parent(2 + rule, 1, rule);
        }
        return x;
    }

    private static void relate() {
        promise = 5;
        LogicalPairs x = withRules();
        x.kind(0);
        x.parent(5, 5, 1);
        x.segment(1, 0, 1);
        x.segment(1, 0, 2);
        x.segment(3, 0, 1);
        x.segment(3, 0, 2);
        x.segment(5, 0, 1);
        x.segment(5, 0, 2);
        due("segment 0", x.relate(0, 1), -2);
        due("other 0", x.relate(3, 0), -2);
        due("segment 7", x.relate(7, 1), -2);
        due("other 7", x.relate(3, 7), -2);
        due("lowest and highest", x.relate(LOW, HIGH), -2);
        due("no logical parent kind", x.relate(1, 2), -4);
        due("another kind", x.relate(3, 4), -4);
        due("itself, of its own logical parent kind", x.relate(5, 5), -4);
        due("its own kind", x.relate(5, 6), 1);
        due("both ways", x.relate(6, 5), 1);
        due("ordinary", x.relate(3, 1), 1);
        due("already to the same", x.relate(3, 1), -5);
        due("already to another", x.relate(3, 2), -5);
        due("-4 before -5", x.relate(3, 4), -4);
        due("counted once", x.count(1), 1);
        x.delete(1);
        due("to one that stays", x.relate(4, 1), 1);
        due("counted", x.count(1), 2);
        x.segment(3, 0, 3);
        x.delete(2);
        due("to a gone one", x.relate(7, 2), -5);
        x.segment(1, 0, 2);
        x.delete(7);
        due("from a gone one", x.relate(7, 8), -5);
        due("-4 before not there", x.relate(7, 4), -4);
        due("relations", x.told(4), 4);
    }

    private static void delete() {
        promise = 6;
        LogicalPairs x = new LogicalPairs();
        x.kind(0);
        x.kind(1);
        x.kind(2);
        x.segment(1, 0, 1);
        x.segment(2, 1, 1);
        x.segment(3, 2, 1);
        x.segment(3, 2, 2);
        x.segment(2, 1, 2);
        x.segment(1, 0, 2);
        due("segment 0", x.delete(0), -2);
        due("segment 7", x.delete(7), -2);
        due("lowest", x.delete(LOW), -2);
        due("highest", x.delete(HIGH), -2);
        due("a leaf", x.delete(4), 1);
        due("again", x.delete(4), -5);
        due("a tree without what went before", x.delete(1), 4);
        for (int each = 1; each <= 5; each++) {
            due("there " + each, x.there(each, 0), false);
            due("stays " + each, x.there(each, 1), false);
        }
        due("the other root", x.there(6, 0), true);
        due("one that went with its tree", x.delete(3), -5);
    }

    private static void deleteByRules() {
        promise = 6;
        for (int rule = 0; rule <= 2; rule++) {
            LogicalPairs x = withRules();
            x.kind(2 + rule);
            x.segment(1, 0, 1);
            x.segment(2 + rule, 0, 1);
            x.segment(5, 2, 1);
            x.relate(2, 1);
            due("rule " + rule, x.delete(1), rule == 0 ? -5 : rule == 1 ? 1 : 3);
            due("there by rule " + rule, x.there(1, 0), rule == 0);
            due("stays by rule " + rule, x.there(1, 1), rule == 1);
            due("related one by rule " + rule, x.there(2, 0), rule != 2);
            due("below the related one by rule " + rule, x.there(3, 0), rule != 2);
            due("relations by rule " + rule, x.told(4), rule == 2 ? 0 : 1);
        }
        LogicalPairs x = withRules();
        for (int kind = 1; kind <= 4; kind++) {
            x.segment(kind, 0, 1);
            x.relate(kind, 1);
        }
        due("all three rules: barred", x.delete(1), -5);
        due("nothing goes if one is barred", x.told(2), 4);
        due("no relation goes if one is barred", x.told(4), 3);
        due("the one that bars", x.delete(2), 1);
        due("stays by rule 1, and takes the one of rule 2", x.delete(1), 2);
        due("stays", x.there(1, 1), true);
        due("the one of rule 1", x.there(3, 0), true);
        due("the one of rule 2", x.there(4, 0), false);
        due("count of those left", x.count(1), 1);
        due("one that stays isn't there", x.delete(1), -5);
    }

    private static void deleteGathersFirst() {
        promise = 6;
        // Segment 2 would bar segment 1, but is below segment 3, which goes by rule 2.
        LogicalPairs x = new LogicalPairs();
        x.kind(0);
        x.kind(0);
        x.kind(2);
        x.parent(2, 1, 2);
        x.parent(3, 1, 0);
        x.segment(1, 0, 1);
        x.segment(2, 0, 1);
        x.segment(3, 2, 1);
        x.relate(3, 1);
        due("barred while it does not go too", x.delete(1), -5);
        x.relate(2, 1);
        due("one that goes too by rule 2 bars nothing", x.delete(1), 3);
        due("all went", x.told(2) + x.told(3) + x.told(4), 0);

        LogicalPairs below = new LogicalPairs();
        below.kind(0);
        below.kind(1);
        below.parent(2, 1, 0);
        below.segment(1, 0, 1);
        below.segment(1, 0, 2);
        below.segment(2, 1, 1);
        below.segment(2, 1, 2);
        below.relate(3, 1);
        below.relate(4, 2);
        due("barred by one below another", below.delete(2), -5);
        due("one below it bars nothing", below.delete(1), 3);
        due("nor any more the other", below.delete(2), 1);

        LogicalPairs ring = new LogicalPairs();
        ring.kind(0);
        ring.parent(1, 1, 2);
        for (int each = 1; each <= 5; each++) {
            ring.segment(1, 0, each);
        }
        for (int each = 1; each <= 4; each++) {
            ring.relate(each, each % 4 + 1);
        }
        ring.relate(5, 1);
        due("and so on, round a ring", ring.delete(3), 5);
        due("none there", ring.told(2), 0);

        LogicalPairs barredFar = withRules();
        barredFar.kind(4);
        barredFar.kind(0);
        barredFar.parent(6, 5, 0);
        barredFar.segment(1, 0, 1);
        barredFar.segment(4, 0, 1);
        barredFar.segment(5, 2, 1);
        barredFar.segment(6, 0, 1);
        barredFar.relate(2, 1);
        barredFar.relate(4, 3);
        due("barred at one that would go too", barredFar.delete(1), -5);
        due("nothing went", barredFar.told(2), 4);
    }

    private static void deleteAndStay() {
        promise = 6;
        LogicalPairs x = new LogicalPairs();
        x.kind(0);
        x.parent(1, 1, 1);
        for (int each = 1; each <= 4; each++) {
            x.segment(1, 0, each);
        }
        x.relate(2, 1);
        x.relate(3, 2);
        x.relate(4, 1);
        due("the middle one stays", x.delete(2), 1);
        due("it stays", x.there(2, 1), true);
        due("it is related to none any more", x.child(1, 1, 0), 4);
        due("nor counted", x.count(1), 1);
        due("relations", x.told(4), 2);
        due("first one stays", x.delete(1), 1);
        due("one that was related goes; one that stayed is not counted", x.delete(4), 1);
        due("the one without count is gone", x.there(1, 1), false);
        due("the one with a count stays", x.there(2, 1), true);
        due("key of one that stays is free", x.segment(1, 0, 2), 5);
        due("last", x.delete(3), 1);
        due("stay", x.told(3), 0);

        // Those that stay with the whole tree are counted with those that went.
        LogicalPairs tree = withRules();
        tree.kind(1);
        tree.kind(5);
        tree.kind(0);
        tree.parent(7, 6, 1);
        tree.segment(1, 0, 1);
        tree.segment(5, 1, 1);
        tree.segment(6, 2, 1);
        tree.segment(7, 0, 1);
        tree.relate(4, 3);
        due("went or stay", tree.delete(1), 3);
        due("the lowest one stays", tree.there(3, 1), true);
        due("the middle one does not", tree.there(2, 1), false);
        due("it is no one's child", tree.poke(3, 0, 0), 0);
    }

    /** All 15 kinds and 250 segments: each row is used to its last place. */
    private static void fullObject() {
        promise = 6;
        LogicalPairs x = new LogicalPairs();
        for (int kind = 1; kind <= 15; kind++) {
            x.kind(0);
        }
        due("parent of the last kind", x.parent(15, 15, 2), 1);
        due("parent of the one before it", x.parent(14, 15, 0), 1);
        x.index(15, false);
        for (int number = 1; number <= 249; number++) {
            x.segment(15, 0, number);
        }
        due("the last segment", x.segment(14, 0, 1), 250);
        for (int number = 31; number <= 250; number++) {
            x.relate(number, number - 1);
        }
        due("last entry", x.entry(1, 248), 249);
        due("behind the last entry", x.entry(1, 249), 0);
        due("last logical child", x.child(249, 1, 0), 250);
        due("behind the last logical child", x.child(249, 1, 1), 0);
        due("no child", x.child(249, 0, 0), 0);
        due("barred by the last one", x.delete(30), -5);
        due("all are there", x.told(2), 250);
        due("the last one", x.delete(250), 1);
        due("all that are related, one by the other", x.delete(30), 220);
        due("the others", x.told(2), 29);
        due("no relations", x.told(4), 0);

        LogicalPairs all = new LogicalPairs();
        all.kind(0);
        all.kind(1);
        all.segment(1, 0, 0);
        for (int number = 2; number <= 250; number++) {
            all.segment(2, 1, number);
        }
        due("last child", all.child(1, 0, 248), 250);
        due("behind the last child", all.child(1, 0, 249), 0);
        due("all 250", all.delete(1), 250);

        LogicalPairs again = withRules();
        for (int number = 1; number <= 248; number++) {
            again.segment(1, 0, number);
        }
        again.segment(2, 0, 1);
        again.segment(4, 0, 1);
        again.relate(249, 1);
        again.relate(250, 1);
        due("barred, though the last one would go", again.delete(1), -5);
        again.delete(249);
        due("a barred delete leaves no mark on the last one", again.delete(1), 2);
    }

    private static void there() {
        promise = 7;
        LogicalPairs x = withRules();
        x.segment(1, 0, 1);
        x.segment(3, 0, 1);
        x.relate(2, 1);
        due("there", x.there(1, 0), true);
        due("one that is there does not stay", x.there(1, 1), false);
        x.delete(1);
        due("deleted", x.there(1, 0), false);
        due("stays", x.there(1, 1), true);
        due("side 2", x.there(2, 2), false);
        due("side -1", x.there(1, -1), false);
        x.delete(2);
        due("gone", x.there(1, 0) || x.there(1, 1), false);
        for (int side = 0; side <= 1; side++) {
            due("segment 0", x.there(0, side), false);
            due("segment 3", x.there(3, side), false);
            due("lowest", x.there(LOW, side), false);
            due("highest", x.there(HIGH, side), false);
        }
    }

    private static void children(String what, LogicalPairs x, int segment, int side, int... want) {
        for (int i = 0; i < want.length; i++) {
            due(what + ", child " + i, x.child(segment, side, i), want[i]);
        }
        due(what + ", behind the last", x.child(segment, side, want.length), 0);
        due(what + ", at the highest place", x.child(segment, side, HIGH), 0);
        due(what + ", at place -1", x.child(segment, side, -1), 0);
        due(what + ", at the lowest place", x.child(segment, side, LOW), 0);
    }

    private static void childPhysical() {
        promise = 8;
        LogicalPairs x = new LogicalPairs();
        x.kind(0);
        x.kind(1);
        x.kind(1);
        x.kind(2);
        x.segment(1, 0, 1);
        x.segment(1, 0, 2);
        x.segment(3, 1, -5);
        x.segment(2, 1, 9);
        x.segment(2, 1, Long.MIN_VALUE);
        x.segment(3, 1, Long.MAX_VALUE);
        x.segment(2, 2, 3);
        x.segment(2, 1, 0);
        x.segment(4, 4, 0);
        children("by kinds, then keys", x, 1, 0, 5, 8, 4, 3, 6);
        children("of another one", x, 2, 0, 7);
        children("of the middle", x, 4, 0, 9);
        children("of a leaf", x, 9, 0);
        children("of segment 0", x, 0, 0);
        children("of segment 10", x, 10, 0);
        children("of the lowest", x, LOW, 0);
        children("of the highest", x, HIGH, 0);
        children("side 2", x, 1, 2);
        children("side -1", x, 1, -1);
        x.delete(8);
        x.delete(3);
        children("without the deleted ones", x, 1, 0, 5, 4, 6);
        x.delete(1);
        children("of a gone one", x, 1, 0);
    }

    private static void childLogical() {
        promise = 8;
        LogicalPairs x = withRules();
        x.kind(1);
        x.parent(5, 1, 1);
        x.segment(1, 0, 1);
        x.segment(1, 0, 2);
        x.segment(4, 0, 5);
        x.segment(3, 0, 5);
        x.segment(3, 0, -5);
        x.segment(5, 1, 5);
        x.segment(3, 0, 8);
        x.segment(5, 2, 4);
        for (int each = 8; each >= 3; each--) {
            x.relate(each, each == 7 ? 2 : 1);
        }
        children("by keys, then numbers", x, 1, 1, 5, 8, 3, 4, 6);
        children("of another one", x, 2, 1, 7);
        children("of one without", x, 3, 1);
        children("of segment 0", x, 0, 1);
        children("of segment 9", x, 9, 1);
        x.delete(1);
        children("of one that stays", x, 1, 1, 5, 8, 4);
        children("it has no children under it", x, 1, 0);
        x.delete(4);
        x.delete(5);
        x.delete(8);
        children("of a gone one", x, 1, 1);
    }

    private static void count() {
        promise = 9;
        LogicalPairs x = withRules();
        x.segment(1, 0, 1);
        x.segment(3, 0, 1);
        x.segment(4, 0, 1);
        due("none yet", x.count(1), 0);
        x.relate(2, 1);
        x.relate(3, 1);
        due("two", x.count(1), 2);
        due("of a related one", x.count(2), 0);
        x.poke(1, 2, 77);
        due("what is true, not what is said", x.count(1), 2);
        x.delete(1);
        due("of one that stays", x.count(1), 1);
        x.delete(2);
        due("of a gone one", x.count(1), 0);
        due("segment 0", x.count(0), -2);
        due("segment 4", x.count(4), -2);
        due("lowest", x.count(LOW), -2);
        due("highest", x.count(HIGH), -2);
    }

    private static void index() {
        promise = 10;
        LogicalPairs x = new LogicalPairs();
        due("no kind yet", x.index(1, false), -2);
        x.kind(0);
        due("kind 0", x.index(0, false), -2);
        due("kind 2", x.index(2, true), -2);
        due("lowest", x.index(LOW, true), -2);
        due("highest", x.index(HIGH, true), -2);
        for (int number = 1; number <= 10; number++) {
            due("index " + number, x.index(1, number % 2 == 0), number);
        }
        due("the eleventh", x.index(1, false), LogicalPairs.NONE);
        due("-2 before NONE", x.index(2, false), -2);
        due("indexes", x.told(5), 10);
    }

    private static void entries(String what, LogicalPairs x, int index, int... want) {
        for (int i = 0; i < want.length; i++) {
            due(what + ", entry " + i, x.entry(index, i), want[i]);
        }
        due(what + ", behind the last", x.entry(index, want.length), 0);
        due(what + ", at the highest place", x.entry(index, HIGH), 0);
        due(what + ", at place -1", x.entry(index, -1), 0);
        due(what + ", at the lowest place", x.entry(index, LOW), 0);
    }

    private static void entry() {
        promise = 11;
        LogicalPairs x = withRules();
        x.kind(1);
        x.parent(5, 1, 1);
        x.index(5, false);
        x.segment(1, 0, 1);
        x.segment(1, 0, 2);
        x.segment(5, 2, 4);
        x.segment(5, 1, 4);
        x.segment(5, 1, 0);
        x.segment(5, 2, -3);
        x.segment(5, 2, 0);
        x.segment(5, 2, 1L << 32);
        x.index(5, true);
        x.index(1, true);
        entries("by key, equal ones by number", x, 1, 6, 5, 7, 3, 4, 8);
        entries("sparse", x, 2, 6, 3, 4, 8);
        entries("another kind", x, 3, 1, 2);
        entries("index 0", x, 0);
        entries("index 4", x, 4);
        entries("lowest", x, LOW);
        entries("highest", x, HIGH);
        x.relate(3, 1);
        x.delete(1);
        due("stays", x.there(1, 1), true);
        entries("one that stays is in none", x, 3, 2);
        entries("in step with a delete", x, 1, 6, 7, 3, 8);
        entries("sparse, in step", x, 2, 6, 3, 8);
    }

    private static void poke() {
        promise = 12;
        LogicalPairs x = withRules();
        x.kind(1);
        x.parent(5, 1, 1);
        x.segment(1, 0, 1);
        x.segment(5, 1, 1);
        x.relate(2, 1);
        due("above", x.poke(2, 0, HIGH), 1);
        due("related", x.poke(2, 1, LOW), 1);
        due("count", x.poke(1, 2, -2), 1);
        due("above, poked", x.poke(2, 0, 1), HIGH);
        due("related, poked", x.poke(2, 1, 1), LOW);
        due("count, poked", x.poke(1, 2, 1), -2);
        due("above none", x.poke(1, 0, 0), 0);
        due("related to none", x.poke(1, 1, 0), 0);
        due("pointer 3", x.poke(1, 3, 0), -4);
        due("pointer -1", x.poke(1, -1, 0), -4);
        due("lowest pointer", x.poke(1, LOW, 0), -4);
        due("highest pointer", x.poke(1, HIGH, 0), -4);
        due("segment 0", x.poke(0, 0, 0), -2);
        due("segment 3", x.poke(3, 0, 0), -2);
        due("-2 before -4", x.poke(LOW, 3, 0), -2);
        x.segment(3, 0, 1);
        x.relate(3, 1);
        x.delete(1);
        due("of one that stays", x.poke(1, 2, 5), 1);
        due("of a gone one", x.poke(2, 0, 0), -5);
        due("-4 before -5", x.poke(2, 3, 0), -4);
    }

    private static void check() {
        promise = 13;
        LogicalPairs x = withRules();
        x.segment(1, 0, 1);
        x.segment(3, 0, 1);
        x.relate(2, 1);
        due("all right", x.check(), 0);
        x.poke(1, 0, 4);
        x.poke(1, 1, 4);
        x.poke(1, 2, 4);
        x.poke(2, 1, 0);
        due("four", x.check(), 4);
        x.poke(2, 1, 1);
        due("one poked back", x.check(), 3);
        x.poke(1, 0, 0);
        due("another poked back", x.check(), 2);
        x.poke(2, 0, 2);
        x.delete(2);
        due("those of a gone one don't matter", x.check(), 0);
        x.segment(3, 0, 2);
        x.relate(3, 1);
        x.delete(1);
        x.poke(1, 1, 3);
        due("of one that stays", x.check(), 1);
    }

    private static void pointersSetRight() {
        promise = 13;
        LogicalPairs x = withRules();
        x.kind(1);
        x.segment(1, 0, 1);
        x.segment(3, 0, 1);
        x.segment(3, 0, 2);
        pokeAll(x, 3);
        due("poked", x.check(), 9);
        x.segment(5, 1, 1);
        due("a new one changes no pointer of the one above it", x.check(), 9);
        due("refused relate", x.relate(2, 4), -4);
        due("a refused relate sets nothing right", x.check(), 9);
        x.relate(2, 1);
        due("relate sets both right", x.check(), 3);
        pokeAll(x, 3);
        x.delete(1);
        due("one that stays is set right, those related to it are not", x.check(), 6);
        due("not the related one", x.broken(0), 2);
        due("above of one that stays", x.poke(1, 0, 7), 0);
        x.relate(3, 1);
        due("relate to one that stays", x.check(), 3);
        x.poke(1, 0, 7);
        x.poke(1, 1, 7);
        due("more", x.check(), 5);
        x.delete(2);
        due("the one whose count falls is set right", x.check(), 0);

        LogicalPairs barred = withRules();
        barred.segment(1, 0, 1);
        barred.segment(2, 0, 1);
        barred.relate(2, 1);
        pokeAll(barred, 2);
        due("barred", barred.delete(1), -5);
        due("a barred delete sets nothing right", barred.check(), 6);
        due("goes by what is true", barred.delete(2), 1);
        due("count is right", barred.poke(1, 2, 0), 0);
    }

    private static void pokeAll(LogicalPairs x, int last) {
        for (int each = 1; each <= last; each++) {
            for (int pointer = 0; pointer <= 2; pointer++) {
                x.poke(each, pointer, 100);
            }
        }
    }

    private static void broken() {
        promise = 14;
        LogicalPairs x = new LogicalPairs();
        x.kind(0);
        for (int each = 1; each <= 4; each++) {
            x.segment(1, 0, -each);
        }
        x.poke(3, 2, 1);
        x.poke(4, 0, 9);
        x.poke(3, 0, 1);
        x.poke(1, 1, 1);
        int[] want = {1, 3, 3, 4, 0};
        for (int i = 0; i < want.length; i++) {
            due("broken(" + i + ")", x.broken(i), want[i]);
        }
        due("highest", x.broken(HIGH), 0);
        due("-1", x.broken(-1), 0);
        due("lowest", x.broken(LOW), 0);
        x.delete(3);
        due("without the gone one", x.broken(1), 4);
        due("behind the last", x.broken(2), 0);
    }

    private static void told() {
        promise = 15;
        LogicalPairs x = withRules();
        x.segment(1, 0, 1);
        x.segment(3, 0, 1);
        x.segment(3, 0, 2);
        x.segment(4, 0, 1);
        x.relate(2, 1);
        x.relate(3, 1);
        x.relate(4, 1);
        x.index(1, false);
        tolds("before", x, 4, 4, 4, 0, 3, 1);
        x.delete(1);
        tolds("one stays", x, 4, 4, 2, 1, 2, 1);
        x.delete(2);
        tolds("still", x, 4, 4, 1, 1, 1, 1);
        x.delete(3);
        tolds("all gone", x, 4, 4, 0, 0, 0, 1);
        due("6", x.told(6), LogicalPairs.NONE);
        due("-1", x.told(-1), LogicalPairs.NONE);
        due("lowest", x.told(LOW), LogicalPairs.NONE);
        due("highest", x.told(HIGH), LogicalPairs.NONE);
    }

    private static void tolds(String when, LogicalPairs x, int... want) {
        for (int what = 0; what < want.length; what++) {
            due("told(" + what + "), " + when, x.told(what), want[what]);
        }
    }
}
