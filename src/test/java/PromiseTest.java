/**
 * The document's promises 1 to 15: each sentence, or part of one, that names an answer or a boundary
 * case has a test of its own, told by the promise's number and the document's words.
 */
public final class PromiseTest {
    private static final int NONE = LogicalPairs.NONE;
    private static final int LOW = Integer.MIN_VALUE;
    private static final int HIGH = Integer.MAX_VALUE;
    private static int wrong = 0;
    private static int tests = 0;
    private static String words = "";

    private static void holds(int promise, String sentence, Runnable test) {
        words = "promise " + promise + ", \"" + sentence + "\"";
        tests++;
        try {
            test.run();
        } catch (RuntimeException thrown) {
            wrong++;
            System.out.println(words + ": threw " + thrown);
        }
    }

    private static void due(String what, long got, long want) {
        if (got != want) {
            wrong++;
            System.out.println(words + ": " + what + ": answered " + got + ", due is " + want);
        }
    }

    private static void due(String what, boolean got, boolean want) {
        due(what, got ? 1 : 0, want ? 1 : 0);
    }

    public static void main(String[] args) {
        promisesOfKinds();
        promisesOfSegments();
        promisesOfAsking();
        promisesOfPointers();
        System.out.println(wrong == 0 ? tests + " tests: all answers are as due" : wrong + " answers are not as due");
        if (wrong != 0) {
            System.exit(1);
        }
    }

    private static void promisesOfKinds() {
        holds(1, "No kinds, no segments.", PromiseTest::newObject);
        holds(1, "No kinds, no segments. (of another object either)", PromiseTest::objectsApart);
        holds(2, "A new kind below another one: its number", PromiseTest::kindNumber);
        holds(2, "(0: none)", PromiseTest::kindBelowNone);
        holds(2, "-2 no such kind", PromiseTest::kindNoSuch);
        holds(2, "NONE when there are 15", PromiseTest::kindNone);
        holds(2, "-2 .. NONE", PromiseTest::kindOrder);
        holds(3, "A kind gets a logical parent kind, with a rule: 1", PromiseTest::parentGiven);
        holds(3, "0 it has one", PromiseTest::parentHasOne);
        holds(3, "-2", PromiseTest::parentNoSuch);
        holds(3, "-4 rule is not so", PromiseTest::parentRule);
        holds(3, "-5 there were segments of the kind", PromiseTest::parentTooLate);
        holds(3, "the first of -2, -4, -5, 0", PromiseTest::parentOrder);
        holds(3, "(A kind may be its own.)", PromiseTest::parentItsOwn);
        holds(10, "A new index: its number, from 1 on", PromiseTest::indexNumber);
        holds(10, "-2", PromiseTest::indexNoSuch);
        holds(10, "NONE", PromiseTest::indexNone);
        holds(10, "-2; NONE", PromiseTest::indexOrder);
    }

    private static void promisesOfSegments() {
        holds(4, "A new segment: its number", PromiseTest::segmentNumber);
        holds(4, "-2 no such kind", PromiseTest::segmentNoSuch);
        holds(4, "-4 under is not a segment ..", PromiseTest::segmentUnderNoSegment);
        holds(4, "-4 .. that is there", PromiseTest::segmentUnderDeleted);
        holds(4, "-4 .. of the kind above", PromiseTest::segmentUnderOtherKind);
        holds(4, "(0 for a kind below none)", PromiseTest::segmentUnderNone);
        holds(4, "-3 its key is there", PromiseTest::segmentKeyThere);
        holds(4, "NONE when there were 250", PromiseTest::segmentNone);
        holds(4, "-2 .. -4 .. -3 .. NONE", PromiseTest::segmentOrder);
        holds(5, "A segment that is there is related to another one: 1", PromiseTest::relateOrdinary);
        holds(5, "-2 no such segments", PromiseTest::relateNoSuch);
        holds(5, "-4 the other one isn't of the logical parent kind", PromiseTest::relateOtherKind);
        holds(5, "-4 .. or is the same one", PromiseTest::relateSame);
        holds(5, "-5 one of them isn't there", PromiseTest::relateNotThere);
        holds(5, "(the other one: nor stays)", PromiseTest::relateToStaying);
        holds(5, "-5 .. or it is related already", PromiseTest::relateAlready);
        holds(5, "-2 .. -4 .. -5", PromiseTest::relateOrder);
        holds(6, "A segment is deleted: how many went", PromiseTest::deleteHowManyWent);
        holds(6, "how many .. stay from then on", PromiseTest::deleteHowManyStay);
        holds(6, "-2", PromiseTest::deleteNoSuch);
        holds(6, "-5 it isn't there", PromiseTest::deleteNotThere);
        holds(6, "-5 .. or is barred", PromiseTest::deleteBarred);
        holds(6, "-5 .. or is barred (leaves no mark)", PromiseTest::deleteAfterBarred);
    }

    private static void promisesOfAsking() {
        holds(7, "Whether a segment is there (side 0)", PromiseTest::thereSideZero);
        holds(7, "or stays (side 1)", PromiseTest::thereSideOne);
        holds(7, "side (neither 0 nor 1)", PromiseTest::thereOtherSides);
        holds(7, "a segment (no such)", PromiseTest::thereNoSuch);
        holds(8, "The i-th child, from 0 on", PromiseTest::childFromZero);
        holds(8, "side 0: that are there under it", PromiseTest::childUnder);
        holds(8, "side 0: .. by kinds, then keys", PromiseTest::childUnderOrder);
        holds(8, "side 1: that are related to it", PromiseTest::childRelated);
        holds(8, "side 1: .. by keys, then numbers", PromiseTest::childRelatedOrder);
        holds(8, "0 when there is none", PromiseTest::childNone);
        holds(8, "0 when there is none (no such segment or side)", PromiseTest::childNoSuch);
        holds(9, "A segment's count", PromiseTest::countOrdinary);
        holds(9, "-2", PromiseTest::countNoSuch);
        holds(11, "The i-th segment of an index, from 0 on", PromiseTest::entryFromZero);
        holds(11, "0 when there is none", PromiseTest::entryNone);
        holds(11, "0 when there is none (no such index)", PromiseTest::entryNoSuch);
        holds(15, "0 kinds", PromiseTest::toldKinds);
        holds(15, "1 segments ever made", PromiseTest::toldMade);
        holds(15, "2 that are there", PromiseTest::toldThere);
        holds(15, "3 that stay", PromiseTest::toldStay);
        holds(15, "4 relations", PromiseTest::toldRelations);
        holds(15, "5 indexes", PromiseTest::toldIndexes);
        holds(15, "NONE for others", PromiseTest::toldOthers);
    }

    private static void promisesOfPointers() {
        holds(12, "A pointer .. says to from now on: what it said", PromiseTest::pokeOrdinary);
        holds(12, "of a segment that is there, or stays", PromiseTest::pokeStaying);
        holds(12, "-2", PromiseTest::pokeNoSuch);
        holds(12, "-4 pointer is not so", PromiseTest::pokePointer);
        holds(12, "-5 the segment is gone", PromiseTest::pokeGone);
        holds(12, "-2; -4 ..; -5", PromiseTest::pokeOrder);
        holds(13, "How many pointers .. don't say what is true", PromiseTest::checkHowMany);
        holds(13, "of segments that are there or stay", PromiseTest::checkThereOrStay);
        holds(14, "The segment of the i-th such pointer", PromiseTest::brokenFromZero);
        holds(14, "by segments, then pointers", PromiseTest::brokenOrder);
        holds(14, "0 when there is none", PromiseTest::brokenNone);
    }

    /** An object with the kinds 1 and on, each below the one that is told at its place (0: none). */
    private static LogicalPairs kinds(int... above) {
        LogicalPairs x = new LogicalPairs();
        for (int each : above) {
            x.kind(each);
        }
        return x;
    }

    /** Kind 1 and, with it as logical parent, kinds 2, 3 and 4 with the rules 0, 1 and 2. */
    private static LogicalPairs withRules() {
        LogicalPairs x = kinds(0, 0, 0, 0);
        for (int rule = 0; rule <= 2; rule++) {
            x.parent(2 + rule, 1, rule);
        }
        return x;
    }

    /** Segment 1 stays, as 2 is related to it; 3 is gone; 2 and 4 are there. Kinds 1, 3, 1 and 1. */
    private static LogicalPairs withAllStates() {
        LogicalPairs x = withRules();
        x.segment(1, 0, 1);
        x.segment(3, 0, 1);
        x.segment(1, 0, 2);
        x.segment(1, 0, 3);
        x.relate(2, 1);
        x.delete(1);
        x.delete(3);
        return x;
    }

    private static LogicalPairs full() {
        LogicalPairs x = kinds(0, 1);
        for (int number = 1; number <= 250; number++) {
            x.segment(1, 0, number);
        }
        return x;
    }

    // Promise 1

    private static void newObject() {
        LogicalPairs x = new LogicalPairs();
        for (int what = 0; what <= 5; what++) {
            due("told(" + what + ")", x.told(what), 0);
        }
        due("no kind 1", x.segment(1, 0, 1), -2);
        due("no segment 1", x.count(1), -2);
        due("no segment 1 there", x.there(1, 0), false);
        due("no entry", x.entry(1, 0), 0);
        due("check", x.check(), 0);
        due("broken", x.broken(0), 0);
    }

    private static void objectsApart() {
        LogicalPairs x = withAllStates();
        LogicalPairs y = new LogicalPairs();
        due("no kinds", y.told(0), 0);
        due("no segments", y.told(1), 0);
        due("its first kind", y.kind(0), 1);
        due("its first segment", y.segment(1, 0, 1), 1);
        due("the first object has its own", x.told(1), 4);
    }

    // Promise 2: kind

    private static void kindNumber() {
        LogicalPairs x = new LogicalPairs();
        due("first", x.kind(0), 1);
        due("below the first", x.kind(1), 2);
        due("below the first, too", x.kind(1), 3);
        due("below the last", x.kind(3), 4);
    }

    private static void kindBelowNone() {
        LogicalPairs x = kinds(0, 0);
        due("below none, when there are others", x.kind(0), 3);
        due("its segments are under none", x.segment(3, 0, 1), 1);
    }

    private static void kindNoSuch() {
        LogicalPairs x = new LogicalPairs();
        due("below itself to be", x.kind(1), -2);
        x.kind(0);
        for (int above : new int[] {2, 3, 15, 16, HIGH, -1, -2, LOW}) {
            due("below " + above, x.kind(above), -2);
        }
        due("no kind is made", x.told(0), 1);
    }

    private static void kindNone() {
        LogicalPairs x = new LogicalPairs();
        for (int number = 1; number <= 15; number++) {
            due("kind " + number, x.kind(number - 1), number);
        }
        due("the 16th", x.kind(0), NONE);
        due("the 16th below the 15th", x.kind(15), NONE);
        due("there are 15", x.told(0), 15);
    }

    private static void kindOrder() {
        LogicalPairs x = kinds(0, 0, 0, 0, 0, 0, 0, 0, 0, 0, 0, 0, 0, 0, 0);
        due("no such kind, when there are 15", x.kind(16), -2);
        due("no such kind either", x.kind(-1), -2);
    }

    // Promise 3: parent

    private static void parentGiven() {
        LogicalPairs x = kinds(0, 0, 0, 1);
        due("rule 0", x.parent(1, 2, 0), 1);
        due("rule 1", x.parent(2, 1, 1), 1);
        due("rule 2, of a higher number", x.parent(3, 4, 2), 1);
        due("of the kind above it", x.parent(4, 1, 2), 1);
        x.segment(3, 0, 1);
        x.segment(1, 0, 1);
        x.segment(4, 2, 1);
        due("it is the logical parent kind", x.relate(1, 3), 1);
        due("with its rule", x.delete(3), 2);
    }

    private static void parentHasOne() {
        LogicalPairs x = kinds(0, 0, 0);
        x.parent(1, 2, 1);
        due("the same again", x.parent(1, 2, 1), 0);
        due("another one", x.parent(1, 3, 2), 0);
        x.segment(1, 0, 1);
        x.segment(2, 0, 1);
        x.segment(3, 0, 1);
        due("the second one isn't its", x.relate(1, 3), -4);
        due("the first one is", x.relate(1, 2), 1);
        due("with the first rule", x.delete(2), 1);
        due("by rule 1", x.there(2, 1), true);
    }

    private static void parentNoSuch() {
        LogicalPairs x = kinds(0, 0);
        for (int kind : new int[] {0, 3, 15, 16, HIGH, -1, LOW}) {
            due("kind " + kind, x.parent(kind, 1, 0), -2);
            due("other " + kind, x.parent(1, kind, 0), -2);
            due("both " + kind, x.parent(kind, kind, 0), -2);
        }
        due("it has none yet", x.parent(1, 2, 0), 1);
    }

    private static void parentRule() {
        LogicalPairs x = kinds(0, 0);
        for (int rule : new int[] {-1, -2, 3, 4, HIGH, LOW}) {
            due("rule " + rule, x.parent(1, 2, rule), -4);
        }
        due("it has none yet", x.parent(1, 2, 2), 1);
    }

    private static void parentTooLate() {
        LogicalPairs x = kinds(0, 0, 0);
        x.segment(1, 0, 1);
        due("there is one", x.parent(1, 2, 0), -5);
        due("there is one of the other kind alone", x.parent(2, 1, 0), 1);
        x.segment(3, 0, 1);
        x.delete(2);
        due("there was one, and it is gone", x.parent(3, 1, 0), -5);
        due("a refused one makes no segment", x.segment(4, 0, 1), -2);
    }

    private static void parentOrder() {
        LogicalPairs x = kinds(0, 0, 0);
        x.parent(1, 2, 0);
        due("-2 before -4", x.parent(1, 9, 3), -2);
        due("-2 before 0", x.parent(1, 9, 0), -2);
        due("-4 before 0", x.parent(1, 2, 3), -4);
        x.segment(1, 0, 1);
        x.segment(3, 0, 1);
        due("-2 before -5", x.parent(3, 9, 0), -2);
        due("-4 before -5", x.parent(3, 2, 3), -4);
        due("-5 before 0", x.parent(1, 2, 0), -5);
        due("-2 before all", x.parent(1, 9, 9), -2);
        due("-4 before -5 and 0", x.parent(1, 2, -1), -4);
    }

    private static void parentItsOwn() {
        LogicalPairs x = kinds(0);
        due("its own", x.parent(1, 1, 1), 1);
        x.segment(1, 0, 1);
        x.segment(1, 0, 2);
        due("to one of its own kind", x.relate(1, 2), 1);
        due("and back", x.relate(2, 1), 1);
        due("by its own rule", x.delete(1), 1);
        due("it stays", x.there(1, 1), true);
    }

    // Promise 10: index

    private static void indexNumber() {
        LogicalPairs x = kinds(0, 0);
        due("the first", x.index(2, false), 1);
        due("the second", x.index(1, true), 2);
        due("a refused one", x.index(3, true), -2);
        due("the third, of the kind of the first", x.index(2, true), 3);
    }

    private static void indexNoSuch() {
        due("of no kind", new LogicalPairs().index(1, false), -2);
        LogicalPairs x = kinds(0, 0);
        for (int kind : new int[] {0, 3, 16, HIGH, -1, LOW}) {
            due("kind " + kind, x.index(kind, false), -2);
            due("kind " + kind + ", sparse", x.index(kind, true), -2);
        }
        due("no index is made", x.told(5), 0);
    }

    private static void indexNone() {
        LogicalPairs x = kinds(0);
        for (int number = 1; number <= 10; number++) {
            due("index " + number, x.index(1, number % 2 == 0), number);
        }
        due("the eleventh", x.index(1, false), NONE);
        due("the eleventh, sparse", x.index(1, true), NONE);
        due("there are 10", x.told(5), 10);
    }

    private static void indexOrder() {
        LogicalPairs x = kinds(0);
        for (int number = 1; number <= 10; number++) {
            x.index(1, false);
        }
        due("no such kind, when there are 10", x.index(2, false), -2);
    }

    // Promise 4: segment

    private static void segmentNumber() {
        LogicalPairs x = kinds(0, 1, 2);
        due("first", x.segment(1, 0, 5), 1);
        due("under it", x.segment(2, 1, 5), 2);
        due("under that", x.segment(3, 2, 5), 3);
        due("the lowest key", x.segment(3, 2, Long.MIN_VALUE), 4);
        due("the highest key", x.segment(3, 2, Long.MAX_VALUE), 5);
        due("key 0", x.segment(3, 2, 0), 6);
        due("a second root", x.segment(1, 0, 6), 7);
    }

    private static void segmentNoSuch() {
        due("of no kind", new LogicalPairs().segment(1, 0, 1), -2);
        LogicalPairs x = kinds(0, 0);
        for (int kind : new int[] {0, 3, 15, 16, HIGH, -1, LOW}) {
            due("kind " + kind, x.segment(kind, 0, 1), -2);
        }
        due("no segment is made", x.told(1), 0);
    }

    private static void segmentUnderNoSegment() {
        LogicalPairs x = kinds(0, 1);
        x.segment(1, 0, 1);
        for (int under : new int[] {0, 2, 250, 251, HIGH, -1, LOW}) {
            due("under " + under, x.segment(2, under, 1), -4);
        }
        due("no segment is made", x.told(1), 1);
    }

    private static void segmentUnderDeleted() {
        LogicalPairs x = withAllStates();
        x.kind(1);
        due("under one that stays", x.segment(5, 1, 1), -4);
        due("under a gone one", x.segment(5, 3, 1), -4);
        due("under one that is there", x.segment(5, 4, 1), 5);
    }

    private static void segmentUnderOtherKind() {
        LogicalPairs x = kinds(0, 1, 2, 0);
        x.segment(1, 0, 1);
        x.segment(2, 1, 1);
        x.segment(4, 0, 1);
        due("under one of another tree", x.segment(2, 3, 2), -4);
        due("under one of its own kind", x.segment(2, 2, 2), -4);
        due("under one two above", x.segment(3, 1, 2), -4);
        due("under one of the kind above", x.segment(3, 2, 2), 4);
    }

    private static void segmentUnderNone() {
        LogicalPairs x = kinds(0, 1);
        due("under none", x.segment(1, 0, 1), 1);
        for (int under : new int[] {1, 2, HIGH, -1, LOW}) {
            due("a kind below none under " + under, x.segment(1, under, 2), -4);
        }
        due("a kind below another under none", x.segment(2, 0, 2), -4);
    }

    private static void segmentKeyThere() {
        LogicalPairs x = kinds(0, 1, 1);
        x.segment(1, 0, 1);
        x.segment(1, 0, 2);
        x.segment(2, 1, 7);
        due("under one", x.segment(2, 1, 7), -3);
        due("under none", x.segment(1, 0, 1), -3);
        due("no segment is made", x.told(1), 3);
        due("under another", x.segment(2, 2, 7), 4);
        due("of another kind", x.segment(3, 1, 7), 5);
        x.delete(3);
        due("its key is there no more", x.segment(2, 1, 7), 6);
    }

    private static void segmentNone() {
        LogicalPairs x = kinds(0, 1);
        for (int number = 1; number <= 250; number++) {
            due("segment " + number, x.segment(1, 0, -number), number);
        }
        due("the 251st", x.segment(1, 0, 0), NONE);
        due("the 251st under another", x.segment(2, 250, 0), NONE);
        due("delete the last", x.delete(250), 1);
        due("there were 250, though one is gone", x.segment(1, 0, -250), NONE);
        due("made", x.told(1), 250);
        due("there", x.told(2), 249);
    }

    private static void segmentOrder() {
        LogicalPairs x = kinds(0, 1, 1);
        x.segment(1, 0, 1);
        x.segment(2, 1, 7);
        due("-2 before -4", x.segment(4, 9, 7), -2);
        due("-4 before -3", x.segment(1, 9, 1), -4);
        LogicalPairs full = full();
        due("-2 before NONE", full.segment(3, 0, 251), -2);
        due("-4 before NONE", full.segment(2, 0, 251), -4);
        due("-3 before NONE", full.segment(1, 0, 250), -3);
    }

    // Promise 5: relate

    private static void relateOrdinary() {
        LogicalPairs x = withRules();
        for (int kind = 1; kind <= 4; kind++) {
            x.segment(kind, 0, 1);
        }
        for (int segment = 2; segment <= 4; segment++) {
            due("by rule " + (segment - 2), x.relate(segment, 1), 1);
            due("count", x.count(1), segment - 1);
        }
        due("relations", x.told(4), 3);
    }

    private static void relateNoSuch() {
        LogicalPairs x = withRules();
        x.segment(1, 0, 1);
        x.segment(3, 0, 1);
        for (int segment : new int[] {0, 3, 250, 251, HIGH, -1, LOW}) {
            due("segment " + segment, x.relate(segment, 1), -2);
            due("other " + segment, x.relate(2, segment), -2);
            due("both " + segment, x.relate(segment, segment), -2);
        }
        due("no relations", x.told(4), 0);
    }

    private static void relateOtherKind() {
        LogicalPairs x = withRules();
        for (int kind = 1; kind <= 4; kind++) {
            x.segment(kind, 0, 1);
            x.segment(kind, 0, 2);
        }
        due("no logical parent kind", x.relate(1, 3), -4);
        due("no logical parent kind, to its own", x.relate(1, 2), -4);
        due("to its own kind", x.relate(3, 4), -4);
        due("to another kind", x.relate(3, 5), -4);
        due("no relations", x.told(4), 0);
        due("to the right kind", x.relate(3, 2), 1);
    }

    private static void relateSame() {
        LogicalPairs x = kinds(0);
        x.parent(1, 1, 1);
        x.segment(1, 0, 1);
        x.segment(1, 0, 2);
        due("itself", x.relate(1, 1), -4);
        due("another of its kind", x.relate(1, 2), 1);
        due("itself, when it is related", x.relate(1, 1), -4);
        x.delete(2);
        due("itself, when it stays", x.relate(2, 2), -4);
    }

    private static void relateNotThere() {
        LogicalPairs x = withAllStates();
        x.segment(3, 0, 2);
        x.segment(3, 0, 3);
        x.delete(6);
        due("to a gone one", x.relate(5, 3), -5);
        due("from a gone one", x.relate(6, 4), -5);
        due("from a gone one to a gone one", x.relate(6, 3), -5);
        due("relations", x.told(4), 1);
        LogicalPairs own = kinds(0);
        own.parent(1, 1, 1);
        for (int key = 1; key <= 3; key++) {
            own.segment(1, 0, key);
        }
        own.relate(2, 1);
        own.delete(1);
        due("from one that stays", own.relate(1, 3), -5);
    }

    private static void relateToStaying() {
        LogicalPairs x = withAllStates();
        x.segment(3, 0, 2);
        x.segment(2, 0, 1);
        due("to one that stays", x.relate(5, 1), 1);
        due("by rule 0, too", x.relate(6, 1), 1);
        due("count", x.count(1), 3);
        x.delete(2);
        x.delete(5);
        due("it stays by the last one", x.there(1, 1), true);
        x.delete(6);
        x.segment(3, 0, 3);
        due("it is gone", x.relate(7, 1), -5);
    }

    private static void relateAlready() {
        LogicalPairs x = withAllStates();
        due("to the same one", x.relate(2, 1), -5);
        due("to another one", x.relate(2, 4), -5);
        due("count", x.count(1), 1);
        due("count of the other one", x.count(4), 0);
        due("relations", x.told(4), 1);
    }

    private static void relateOrder() {
        LogicalPairs x = withAllStates();
        x.segment(3, 0, 2);
        x.delete(5);
        due("-2 before -4", x.relate(4, 9), -2);
        due("-2 before -5", x.relate(5, 9), -2);
        due("-4 before -5, being not there", x.relate(5, 2), -4);
        due("-4 before -5, the other one being gone", x.relate(4, 3), -4);
        due("-4 before -5, being related already", x.relate(2, 5), -4);
        due("-4 before -5, being the same gone one", x.relate(5, 5), -4);
    }

    // Promise 6: delete

    private static void deleteHowManyWent() {
        LogicalPairs x = kinds(0, 1, 2);
        x.segment(1, 0, 1);
        x.segment(2, 1, 1);
        x.segment(3, 2, 1);
        x.segment(3, 2, 2);
        x.segment(2, 1, 2);
        x.segment(1, 0, 2);
        due("a leaf", x.delete(4), 1);
        due("a tree without what went before", x.delete(1), 4);
        due("what is left", x.told(2), 1);
        due("the last", x.delete(6), 1);
    }

    private static void deleteHowManyStay() {
        LogicalPairs x = kinds(0, 1, 1, 0, 0);
        x.parent(4, 1, 1);
        x.parent(5, 2, 1);
        x.segment(1, 0, 1);
        x.segment(2, 1, 1);
        x.segment(3, 1, 1);
        x.segment(4, 0, 1);
        x.segment(5, 0, 1);
        x.relate(4, 1);
        x.relate(5, 2);
        due("two stay, one is gone", x.delete(1), 3);
        due("stay", x.told(3), 2);
        due("one that stayed before is not counted", x.delete(4), 1);
        due("it is gone", x.there(1, 1), false);
    }

    private static void deleteNoSuch() {
        due("of no segments", new LogicalPairs().delete(1), -2);
        LogicalPairs x = withAllStates();
        for (int segment : new int[] {0, 5, 250, 251, HIGH, -1, LOW}) {
            due("segment " + segment, x.delete(segment), -2);
        }
        due("nothing went", x.told(2), 2);
    }

    private static void deleteNotThere() {
        LogicalPairs x = withAllStates();
        due("one that stays", x.delete(1), -5);
        due("a gone one", x.delete(3), -5);
        due("the one still stays", x.there(1, 1), true);
        x.kind(1);
        x.segment(5, 4, 1);
        x.delete(4);
        due("one that went with the one above it", x.delete(5), -5);
    }

    private static void deleteBarred() {
        LogicalPairs x = withRules();
        for (int kind = 1; kind <= 4; kind++) {
            x.segment(kind, 0, 1);
            x.relate(kind, 1);
        }
        due("by one of three", x.delete(1), -5);
        due("all are there", x.told(2), 4);
        due("all relations are", x.told(4), 3);
        x.delete(2);
        due("barred no more", x.delete(1), 2);
    }

    private static void deleteAfterBarred() {
        LogicalPairs x = withRules();
        for (int number = 1; number <= 248; number++) {
            x.segment(1, 0, number);
        }
        x.segment(2, 0, 1);
        x.segment(4, 0, 1);
        x.relate(249, 1);
        x.relate(250, 1);
        due("barred, though the last one would go", x.delete(1), -5);
        due("another one goes alone", x.delete(2), 1);
        due("the one that bars", x.delete(249), 1);
        due("with the last one", x.delete(1), 2);
    }

    // Promise 7: there

    private static void thereSideZero() {
        LogicalPairs x = withAllStates();
        due("stays", x.there(1, 0), false);
        due("there, and related", x.there(2, 0), true);
        due("gone", x.there(3, 0), false);
        due("there", x.there(4, 0), true);
    }

    private static void thereSideOne() {
        LogicalPairs x = withAllStates();
        x.segment(3, 0, 2);
        x.relate(5, 4);
        due("stays", x.there(1, 1), true);
        due("there, and related", x.there(2, 1), false);
        due("gone", x.there(3, 1), false);
        due("there, with a count", x.there(4, 1), false);
    }

    private static void thereOtherSides() {
        LogicalPairs x = withAllStates();
        for (int side : new int[] {2, 3, HIGH, -1, LOW}) {
            due("one that stays, side " + side, x.there(1, side), false);
            due("one that is there, side " + side, x.there(2, side), false);
        }
    }

    private static void thereNoSuch() {
        LogicalPairs x = withAllStates();
        for (int segment : new int[] {0, 5, 250, 251, HIGH, -1, LOW}) {
            due("segment " + segment + ", side 0", x.there(segment, 0), false);
            due("segment " + segment + ", side 1", x.there(segment, 1), false);
        }
    }

    // Promise 8: child

    private static void children(String what, LogicalPairs x, int segment, int side, int... want) {
        for (int i = 0; i < want.length; i++) {
            due(what + ", child " + i, x.child(segment, side, i), want[i]);
        }
        due(what + ", behind the last", x.child(segment, side, want.length), 0);
    }

    private static void childFromZero() {
        LogicalPairs x = kinds(0, 1);
        x.parent(2, 1, 0);
        x.segment(1, 0, 0);
        for (int number = 2; number <= 111; number++) {
            x.segment(2, 1, number);
            x.relate(number, 1);
        }
        for (int i = 0; i < 110; i++) {
            due("child " + i, x.child(1, 0, i), i + 2);
            due("logical child " + i, x.child(1, 1, i), i + 2);
        }
        due("behind the last", x.child(1, 0, 110), 0);
        due("behind the last logical", x.child(1, 1, 110), 0);
    }

    private static void childUnder() {
        LogicalPairs x = kinds(0, 1, 2, 0);
        x.parent(4, 2, 1);
        x.segment(1, 0, 1);
        x.segment(1, 0, 2);
        x.segment(2, 1, 1);
        x.segment(2, 1, 2);
        x.segment(2, 2, 3);
        x.segment(3, 3, 1);
        x.segment(4, 0, 1);
        x.relate(7, 3);
        children("of one", x, 1, 0, 3, 4);
        children("of another one", x, 2, 0, 5);
        children("of the middle", x, 3, 0, 6);
        children("of a leaf", x, 6, 0);
        x.delete(3);
        children("without one that stays", x, 1, 0, 4);
        children("of one that stays", x, 3, 0);
        x.delete(4);
        children("without a gone one", x, 1, 0);
        x.delete(1);
        children("of a gone one", x, 1, 0);
    }

    private static void childUnderOrder() {
        LogicalPairs x = kinds(0, 1, 1);
        x.segment(1, 0, 1);
        x.segment(3, 1, -5);
        x.segment(2, 1, 9);
        x.segment(2, 1, Long.MIN_VALUE);
        x.segment(3, 1, Long.MAX_VALUE);
        x.segment(3, 1, -6);
        x.segment(2, 1, 0);
        children("by kinds, then keys", x, 1, 0, 4, 7, 3, 6, 2, 5);
    }

    private static void childRelated() {
        LogicalPairs x = withRules();
        x.segment(1, 0, 1);
        x.segment(1, 0, 2);
        x.segment(2, 0, 1);
        x.segment(3, 0, 2);
        x.segment(4, 0, 3);
        x.segment(3, 0, 4);
        x.segment(3, 0, 5);
        for (int each = 3; each <= 5; each++) {
            x.relate(each, 1);
        }
        x.relate(6, 2);
        children("of one, of three kinds", x, 1, 1, 3, 4, 5);
        children("of another one", x, 2, 1, 6);
        children("of one that is related itself", x, 3, 1);
        x.delete(3);
        children("without a gone one", x, 1, 1, 4, 5);
        x.delete(1);
        children("of one that stays", x, 1, 1, 4);
        x.delete(4);
        children("of a gone one", x, 1, 1);
    }

    private static void childRelatedOrder() {
        LogicalPairs x = withRules();
        x.segment(1, 0, 1);
        x.segment(4, 0, 5);
        x.segment(3, 0, 5);
        x.segment(3, 0, Long.MIN_VALUE);
        x.segment(2, 0, 5);
        x.segment(3, 0, Long.MAX_VALUE);
        x.segment(4, 0, -4);
        for (int each = 7; each >= 2; each--) {
            x.relate(each, 1);
        }
        children("by keys, then numbers", x, 1, 1, 4, 7, 2, 3, 5, 6);
    }

    private static void childNone() {
        LogicalPairs x = kinds(0, 1);
        x.parent(2, 1, 0);
        x.segment(1, 0, 1);
        x.segment(2, 1, 1);
        x.relate(2, 1);
        for (int i : new int[] {1, 2, 250, HIGH, -1, LOW}) {
            due("under it, " + i, x.child(1, 0, i), 0);
            due("related to it, " + i, x.child(1, 1, i), 0);
        }
        due("under one without", x.child(2, 0, 0), 0);
        due("related to one without", x.child(2, 1, 0), 0);
    }

    private static void childNoSuch() {
        LogicalPairs x = withAllStates();
        for (int segment : new int[] {0, 5, 250, 251, HIGH, -1, LOW}) {
            due("under " + segment, x.child(segment, 0, 0), 0);
            due("related to " + segment, x.child(segment, 1, 0), 0);
        }
        for (int side : new int[] {2, HIGH, -1, LOW}) {
            due("side " + side, x.child(1, side, 0), 0);
        }
    }

    // Promise 9: count

    private static void countOrdinary() {
        LogicalPairs x = withRules();
        x.segment(1, 0, 1);
        x.segment(3, 0, 1);
        x.segment(4, 0, 1);
        due("none", x.count(1), 0);
        x.relate(2, 1);
        x.relate(3, 1);
        due("two", x.count(1), 2);
        due("of a related one", x.count(2), 0);
        x.poke(1, 2, 77);
        due("what is true, not what is said", x.count(1), 2);
        x.delete(1);
        due("of one that stays", x.count(1), 1);
        x.delete(2);
        due("of a gone one", x.count(1), 0);
    }

    private static void countNoSuch() {
        due("of no segments", new LogicalPairs().count(1), -2);
        LogicalPairs x = withAllStates();
        for (int segment : new int[] {0, 5, 250, 251, HIGH, -1, LOW}) {
            due("segment " + segment, x.count(segment), -2);
        }
    }

    // Promise 11: entry

    private static void entryFromZero() {
        LogicalPairs x = full();
        x.index(1, false);
        for (int i = 0; i < 250; i++) {
            due("entry " + i, x.entry(1, i), i + 1);
        }
        due("behind the last", x.entry(1, 250), 0);
    }

    private static void entryNone() {
        LogicalPairs x = withAllStates();
        x.index(1, false);
        x.index(2, false);
        due("one that is there", x.entry(1, 0), 4);
        for (int i : new int[] {1, 2, 250, HIGH, -1, LOW}) {
            due("entry " + i, x.entry(1, i), 0);
        }
        due("of a kind without segments", x.entry(2, 0), 0);
        x.delete(4);
        due("of a kind whose segments went", x.entry(1, 0), 0);
        x.segment(1, 0, 0);
        x.index(1, true);
        due("sparse, with key 0 alone", x.entry(3, 0), 0);
    }

    private static void entryNoSuch() {
        LogicalPairs x = withAllStates();
        due("no indexes", x.entry(1, 0), 0);
        x.index(1, false);
        for (int index : new int[] {0, 2, 10, 11, HIGH, -1, LOW}) {
            due("index " + index, x.entry(index, 0), 0);
        }
    }

    // Promise 12: poke

    private static void pokeOrdinary() {
        LogicalPairs x = kinds(0, 1);
        x.parent(2, 1, 1);
        x.segment(1, 0, 1);
        x.segment(2, 1, 1);
        x.relate(2, 1);
        due("above", x.poke(2, 0, HIGH), 1);
        due("related", x.poke(2, 1, LOW), 1);
        due("count", x.poke(1, 2, -2), 1);
        due("above, poked", x.poke(2, 0, 1), HIGH);
        due("related, poked", x.poke(2, 1, 1), LOW);
        due("count, poked", x.poke(1, 2, 1), -2);
        due("above none", x.poke(1, 0, 5), 0);
        due("related to none", x.poke(1, 1, 6), 0);
        due("count of none", x.poke(2, 2, 7), 0);
        due("the first one's pointers are its own", x.poke(1, 2, 1), 1);
    }

    private static void pokeStaying() {
        LogicalPairs x = withAllStates();
        due("one that is there", x.poke(4, 2, 8), 0);
        due("one that stays", x.poke(1, 2, 8), 1);
        due("both from now on", x.poke(4, 2, 0), 8);
        due("and this", x.poke(1, 2, 1), 8);
    }

    private static void pokeNoSuch() {
        due("of no segments", new LogicalPairs().poke(1, 0, 0), -2);
        LogicalPairs x = withAllStates();
        for (int segment : new int[] {0, 5, 250, 251, HIGH, -1, LOW}) {
            due("segment " + segment, x.poke(segment, 0, 7), -2);
            due("segment " + segment + ", pointer 2", x.poke(segment, 2, 7), -2);
        }
        due("nothing is wrong", x.check(), 0);
    }

    private static void pokePointer() {
        LogicalPairs x = withAllStates();
        for (int pointer : new int[] {3, 4, HIGH, -1, LOW}) {
            due("pointer " + pointer, x.poke(2, pointer, 7), -4);
            due("pointer " + pointer + " of one that stays", x.poke(1, pointer, 7), -4);
        }
        due("nothing is wrong", x.check(), 0);
    }

    private static void pokeGone() {
        LogicalPairs x = withAllStates();
        for (int pointer = 0; pointer <= 2; pointer++) {
            due("pointer " + pointer, x.poke(3, pointer, 7), -5);
        }
        x.delete(2);
        due("one that stayed", x.poke(1, 2, 7), -5);
        due("one that went", x.poke(2, 1, 7), -5);
    }

    private static void pokeOrder() {
        LogicalPairs x = withAllStates();
        due("-2 before -4", x.poke(5, 3, 0), -2);
        due("-4 before -5", x.poke(3, 3, 0), -4);
    }

    // Promise 13: check

    private static void checkHowMany() {
        LogicalPairs x = withRules();
        x.segment(1, 0, 1);
        x.segment(3, 0, 1);
        x.relate(2, 1);
        due("none", x.check(), 0);
        x.poke(1, 0, 4);
        x.poke(1, 1, 4);
        x.poke(1, 2, 4);
        due("all three of one", x.check(), 3);
        x.poke(2, 1, 0);
        due("of another one, too", x.check(), 4);
        x.poke(1, 2, 5);
        due("poked again to something wrong", x.check(), 4);
        x.poke(1, 2, 1);
        due("poked to what is true", x.check(), 3);
        x.poke(2, 0, 0);
        due("poked to what it said", x.check(), 3);
    }

    private static void checkThereOrStay() {
        LogicalPairs x = withAllStates();
        x.poke(4, 1, 9);
        due("of one that is there", x.check(), 1);
        x.poke(1, 1, 9);
        due("of one that stays", x.check(), 2);
        x.delete(4);
        due("not of one that went", x.check(), 1);
        x.delete(2);
        due("not of one that stayed and is gone", x.check(), 0);

        LogicalPairs all = full();
        for (int segment = 1; segment <= 250; segment++) {
            all.poke(segment, segment % 3, 5);
        }
        due("one of each of 250", all.check(), 250);
    }

    // Promise 14: broken

    private static LogicalPairs withBroken() {
        LogicalPairs x = kinds(0);
        for (int each = 1; each <= 4; each++) {
            x.segment(1, 0, -each);
        }
        x.poke(3, 2, 1);
        x.poke(4, 0, 9);
        x.poke(3, 0, 1);
        x.poke(1, 1, 1);
        return x;
    }

    private static void brokenFromZero() {
        LogicalPairs x = kinds(0);
        for (int each = 1; each <= 3; each++) {
            x.segment(1, 0, each);
        }
        x.poke(2, 0, 7);
        due("the first", x.broken(0), 2);
        x.poke(2, 1, 7);
        x.poke(2, 2, 7);
        for (int i = 0; i <= 2; i++) {
            due("each pointer for itself, " + i, x.broken(i), 2);
        }
        due("behind them", x.broken(3), 0);
    }

    private static void brokenOrder() {
        LogicalPairs x = withBroken();
        int[] want = {1, 3, 3, 4};
        for (int i = 0; i < want.length; i++) {
            due("broken " + i, x.broken(i), want[i]);
        }
        x.delete(3);
        due("without one that went", x.broken(1), 4);
    }

    private static void brokenNone() {
        LogicalPairs x = withBroken();
        for (int i : new int[] {4, 5, 750, HIGH, -1, LOW}) {
            due("broken " + i, x.broken(i), 0);
        }
        for (int segment = 1; segment <= 4; segment++) {
            x.delete(segment);
        }
        due("when all went", x.broken(0), 0);
        due("of no segments", new LogicalPairs().broken(0), 0);
    }

    // Promise 15: told

    private static void toldKinds() {
        LogicalPairs x = new LogicalPairs();
        for (int number = 1; number <= 15; number++) {
            x.kind(0);
            due("kinds", x.told(0), number);
        }
        x.kind(0);
        x.kind(99);
        due("not the refused ones", x.told(0), 15);
    }

    private static void toldMade() {
        LogicalPairs x = withAllStates();
        due("there, staying and gone", x.told(1), 4);
        x.segment(1, 0, 3);
        due("not a refused one", x.told(1), 4);
        x.delete(2);
        x.delete(4);
        due("ever made", x.told(1), 4);
        LogicalPairs full = full();
        full.segment(1, 0, 0);
        due("at most 250", full.told(1), 250);
    }

    private static void toldThere() {
        LogicalPairs x = withAllStates();
        due("two", x.told(2), 2);
        x.segment(1, 0, 9);
        due("three", x.told(2), 3);
        x.delete(2);
        x.delete(4);
        x.delete(5);
        due("none", x.told(2), 0);
        due("all of 250", full().told(2), 250);
    }

    private static void toldStay() {
        LogicalPairs x = withAllStates();
        due("one", x.told(3), 1);
        x.segment(3, 0, 2);
        x.relate(5, 4);
        due("not one that is there with a count", x.told(3), 1);
        x.delete(4);
        due("two", x.told(3), 2);
        x.delete(2);
        due("one again", x.told(3), 1);
        x.delete(5);
        due("none", x.told(3), 0);
    }

    private static void toldRelations() {
        LogicalPairs x = withAllStates();
        due("one, to one that stays", x.told(4), 1);
        x.segment(4, 0, 2);
        x.relate(5, 4);
        due("two", x.told(4), 2);
        x.relate(5, 1);
        due("not a refused one", x.told(4), 2);
        x.delete(4);
        due("one goes by rule 2", x.told(4), 1);
        x.delete(2);
        due("none", x.told(4), 0);
        LogicalPairs ring = kinds(0);
        ring.parent(1, 1, 1);
        ring.segment(1, 0, 1);
        ring.segment(1, 0, 2);
        ring.relate(1, 2);
        due("of the first segment", ring.told(4), 1);
        ring.relate(2, 1);
        due("of two that are related to each other", ring.told(4), 2);
    }

    private static void toldIndexes() {
        LogicalPairs x = kinds(0);
        for (int number = 1; number <= 10; number++) {
            x.index(1, false);
            due("indexes", x.told(5), number);
        }
        x.index(1, false);
        x.index(2, false);
        due("not the refused ones", x.told(5), 10);
    }

    private static void toldOthers() {
        LogicalPairs x = withAllStates();
        for (int what : new int[] {6, 7, HIGH, -1, -2, LOW}) {
            due("told(" + what + ")", x.told(what), NONE);
        }
    }
}
