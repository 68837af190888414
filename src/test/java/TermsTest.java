/**
 * The document's opening and its "Terms": each sentence, or part of one, that names a boundary case
 * has a test of its own, told by the document's words.
 */
public final class TermsTest {
    private static final int NONE = LogicalPairs.NONE;
    private static int wrong = 0;
    private static int tests = 0;
    private static String words = "";

    private static void holds(String sentence, Runnable test) {
        words = sentence;
        tests++;
        try {
            test.run();
        } catch (RuntimeException thrown) {
            wrong++;
            System.out.println("\"" + words + "\": threw " + thrown);
        }
    }

    private static void due(String what, long got, long want) {
        if (got != want) {
            wrong++;
            System.out.println("\"" + words + "\": " + what + ": answered " + got + ", due is " + want);
        }
    }

    private static void due(String what, boolean got, boolean want) {
        due(what, got ? 1 : 0, want ? 1 : 0);
    }

    private static void due(String what, int[] got, int... want) {
        due(what + ", how many", got.length, want.length);
        for (int i = 0; i < want.length && i < got.length; i++) {
            due(what + ", place " + i, got[i], want[i]);
        }
    }

    public static void main(String[] args) {
        holds("An object is used for at most 512 calls", TermsTest::manyCalls);
        holds("KINDS are numbered from 1 on", TermsTest::kindsFromOne);
        holds("KINDS .. (at most 15)", TermsTest::mostKinds);
        holds("each below another one or none", TermsTest::kindsBelow);
        holds("and perhaps with a LOGICAL PARENT kind", TermsTest::perhapsLogicalParent);
        holds("and a RULE: 0 physical, 1 logical, 2 virtual", TermsTest::rules);
        holds("SEGMENTS are numbered from 1 on", TermsTest::segmentsFromOne);
        holds("SEGMENTS .. (at most 250)", TermsTest::mostSegments);
        holds("each of a kind, under a segment of the kind above (or none)", TermsTest::underTheKindAbove);
        holds("with a KEY", TermsTest::anyKey);
        holds("no two that are there under one have one kind and key", TermsTest::noTwoOfOneKey);
        holds("no two that are there ..", TermsTest::keyOfDeletedOneIsFree);
        holds("A segment may be RELATED to one of its kind's logical parent kind", TermsTest::mayBeRelated);
        holds("that one's COUNT is how many that are there are related to it", TermsTest::counted);
        holds("A segment is THERE (physically) from its making till it is deleted", TermsTest::thereTillDeleted);
        holds("a deleted one STAYS (logically) as long as its count is above 0", TermsTest::staysWhileCounted);
        holds("it is no one's parent .. but logically", TermsTest::noOnesParent);
        holds("it is .. no one's child but logically", TermsTest::noOnesChild);
        holds("DELETING a segment takes it with all below it that is there", TermsTest::takesAllBelow);
        holds("of each of these that has a count", TermsTest::countBelowMatters);
        holds("relations to it of segments that go too don't matter", TermsTest::thoseThatGoTooDontMatter);
        holds("relations .. of segments that go too (by rule 2)", TermsTest::thoseThatGoTooByRuleTwo);
        holds("by each other one's kind's rule", TermsTest::ruleOfTheRelatedOnesKind);
        holds("0: all is barred", TermsTest::ruleZeroBars);
        holds("1: it stays", TermsTest::ruleOneStays);
        holds("2: that segment goes too, with all below it", TermsTest::ruleTwoGoesToo);
        holds("(and so on)", TermsTest::andSoOn);
        holds("(and so on), round a ring", TermsTest::andSoOnRoundARing);
        holds("Nothing goes if one is barred", TermsTest::nothingGoesIfBarred);
        holds("A segment that goes is related to none any more", TermsTest::relatedToNoneAnyMore);
        holds("A segment that goes .. (and stays on the other side)", TermsTest::stayingIsRelatedToNone);
        holds("one that stayed and has no count any more is gone", TermsTest::stayedAndIsGone);
        holds("INDEXES (at most 10)", TermsTest::mostIndexes);
        holds("have the segments of a kind that are there", TermsTest::indexesInStep);
        holds("by key, equal ones by number", TermsTest::indexesInOrder);
        holds("a SPARSE one not those with key 0", TermsTest::sparse);
        holds("POINTERS of a segment: 0 the one above it (0 none)", TermsTest::pointerAbove);
        holds("1 the one that it is related to (0 none)", TermsTest::pointerRelated);
        holds("2 its count", TermsTest::pointerCount);
        holds("They may be POKED", TermsTest::poked);
        holds("what is done afterwards goes by what is true", TermsTest::goesByWhatIsTrue);
        holds("and sets all pointers of the segments that it deletes .. right", TermsTest::deletedSetRight);
        holds("or whose pointers it changes, right (relate)", TermsTest::relatedSetRight);
        holds("or whose pointers it changes, right (delete)", TermsTest::countedSetRight);
        holds("(and no others')", TermsTest::othersNotSetRight);
        System.out.println(wrong == 0 ? tests + " tests: all answers are as due" : wrong + " answers are not as due");
        if (wrong != 0) {
            System.exit(1);
        }
    }

    /** An object with the kinds 1 and on, each below the one that is told at its place (0: none). */
    private static LogicalPairs kinds(int... above) {
        LogicalPairs x = new LogicalPairs();
        for (int each : above) {
            x.kind(each);
        }
        return x;
    }

    /** Kind 1 and, with it as logical parent, kinds 2, 3 and 4 with the rules 0, 1 and 2. */
    private static LogicalPairs withRules() {
        LogicalPairs x = kinds(0, 0, 0, 0);
        for (int rule = 0; rule <= 2; rule++) {
            x.parent(2 + rule, 1, rule);
        }
        return x;
    }

    /** Kind 1 with itself as logical parent, by a rule, and so many segments with the keys 1 and on. */
    private static LogicalPairs ofOneKind(int rule, int segments) {
        LogicalPairs x = kinds(0);
        x.parent(1, 1, rule);
        for (int number = 1; number <= segments; number++) {
            x.segment(1, 0, number);
        }
        return x;
    }

    private static int[] children(LogicalPairs x, int segment, int side) {
        int size = 0;
        while (size < 250 && x.child(segment, side, size) != 0) {
            size++;
        }
        int[] found = new int[size];
        for (int i = 0; i < size; i++) {
            found[i] = x.child(segment, side, i);
        }
        return found;
    }

    private static int[] entries(LogicalPairs x, int index) {
        int size = 0;
        while (size < 250 && x.entry(index, size) != 0) {
            size++;
        }
        int[] found = new int[size];
        for (int i = 0; i < size; i++) {
            found[i] = x.entry(index, i);
        }
        return found;
    }

    private static void pokeAll(LogicalPairs x, int... segments) {
        for (int each : segments) {
            for (int pointer = 0; pointer <= 2; pointer++) {
                x.poke(each, pointer, 100 + pointer);
            }
        }
    }

    /** The pointers are read by poking, so this must be the last that is asked of a segment. */
    private static void pointersAre(String what, LogicalPairs x, int segment, int above, int related, int count) {
        due(what + ", pointer 0", x.poke(segment, 0, 0), above);
        due(what + ", pointer 1", x.poke(segment, 1, 0), related);
        due(what + ", pointer 2", x.poke(segment, 2, 0), count);
    }

    private static void manyCalls() {
        LogicalPairs x = kinds(0);
        x.parent(1, 1, 2);
        for (int number = 1; number <= 250; number++) {
            due("segment " + number, x.segment(1, 0, number), number);
        }
        for (int number = 2; number <= 250; number++) {
            due("relate " + number, x.relate(number, number - 1), 1);
        }
        for (int call = 502; call <= 510; call++) {
            due("call " + call, x.count(249), 1);
        }
        due("call 511", x.delete(1), 250);
        due("call 512", x.told(2), 0);
    }

    private static void kindsFromOne() {
        LogicalPairs x = new LogicalPairs();
        due("there is no kind 1 yet", x.index(1, false), -2);
        due("the first", x.kind(0), 1);
        due("the second", x.kind(0), 2);
        due("a refused one", x.kind(3), -2);
        due("the third, though one was refused", x.kind(1), 3);
        due("kind 0 is none", x.index(0, false), -2);
    }

    private static void mostKinds() {
        LogicalPairs x = new LogicalPairs();
        for (int number = 1; number <= 14; number++) {
            x.kind(0);
        }
        due("the 15th", x.kind(0), 15);
        due("the 16th", x.kind(0), NONE);
        due("there are 15", x.told(0), 15);
        due("the 15th has a logical parent", x.parent(15, 15, 1), 1);
        due("the 15th has segments", x.segment(15, 0, 1), 1);
        due("the 15th has indexes", x.index(15, false), 1);
        due("there is no 16th", x.segment(16, 0, 1), -2);
    }

    private static void kindsBelow() {
        LogicalPairs x = new LogicalPairs();
        for (int number = 1; number <= 15; number++) {
            due("kind " + number + ", below the one before it", x.kind(number - 1), number);
            due("its segment", x.segment(number, number - 1, 0), number);
        }
        due("below another one, but under none", x.segment(2, 0, 5), -4);
        due("below none, but under one", x.segment(1, 1, 5), -4);
        due("not below the one two above", x.segment(3, 1, 5), -4);
    }

    private static void perhapsLogicalParent() {
        LogicalPairs x = kinds(0, 0);
        x.parent(1, 2, 0);
        x.segment(1, 0, 1);
        x.segment(2, 0, 1);
        due("with one", x.relate(1, 2), 1);
        due("without", x.relate(2, 1), -4);
    }

    private static void rules() {
        for (int rule = 0; rule <= 2; rule++) {
            LogicalPairs x = kinds(0, 0);
            due("rule " + rule, x.parent(2, 1, rule), 1);
            x.segment(1, 0, 1);
            x.segment(2, 0, 1);
            x.relate(2, 1);
            due("delete by rule " + rule, x.delete(1), rule == 0 ? -5 : rule);
        }
        LogicalPairs x = kinds(0);
        due("rule -1", x.parent(1, 1, -1), -4);
        due("rule 3", x.parent(1, 1, 3), -4);
    }

    private static void segmentsFromOne() {
        LogicalPairs x = kinds(0, 0);
        due("there is no segment 1 yet", x.count(1), -2);
        due("the first", x.segment(2, 0, 9), 1);
        due("of another kind", x.segment(1, 0, 9), 2);
        due("a refused one", x.segment(1, 0, 9), -3);
        due("the third, though one was refused", x.segment(1, 0, 8), 3);
        x.delete(3);
        due("a gone one's number is not given again", x.segment(1, 0, 8), 4);
        due("segment 0 is none", x.count(0), -2);
    }

    private static void mostSegments() {
        LogicalPairs x = ofOneKind(1, 249);
        x.index(1, false);
        due("the 250th", x.segment(1, 0, 250), 250);
        due("the 251st", x.segment(1, 0, 251), NONE);
        due("there were 250", x.told(1), 250);
        due("the 250th is related", x.relate(250, 1), 1);
        due("another one is related to the 250th", x.relate(1, 250), 1);
        due("the 250th has a count", x.count(250), 1);
        due("the 250th is in an index", x.entry(1, 249), 250);
        due("nothing is behind it there", x.entry(1, 250), 0);
        due("the 250th's logical child", x.child(250, 1, 0), 1);
        due("nothing is behind that", x.child(250, 1, 1), 0);
        due("the 250th has no child under it", x.child(250, 0, 0), 0);
        due("the 250th is poked", x.poke(250, 2, 3), 1);
        due("the 250th is looked at", x.broken(0), 250);
        due("the 250th is deleted", x.delete(250), 1);
        due("the 250th stays", x.there(250, 1), true);
        due("there is no 251st", x.count(251), -2);

        LogicalPairs under = kinds(0, 1);
        under.segment(1, 0, 0);
        for (int number = 2; number <= 250; number++) {
            under.segment(2, 1, number);
        }
        due("the 250th is a child", under.child(1, 0, 248), 250);
        due("nothing is behind it", under.child(1, 0, 249), 0);
    }

    private static void underTheKindAbove() {
        LogicalPairs x = kinds(0, 1, 2, 0);
        x.segment(1, 0, 1);
        x.segment(4, 0, 1);
        due("under the kind above", x.segment(2, 1, 1), 3);
        due("under the kind above that", x.segment(3, 3, 1), 4);
        due("under one that is not of the kind above", x.segment(2, 2, 2), -4);
        due("under one of its own kind", x.segment(2, 3, 2), -4);
        due("under one of the kind below", x.segment(2, 4, 2), -4);
        due("under none", x.segment(2, 0, 2), -4);
        due("a kind below none, under one", x.segment(4, 2, 2), -4);
        due("a kind below none, under none", x.segment(4, 0, 2), 5);
    }

    private static void anyKey() {
        LogicalPairs x = kinds(0);
        x.index(1, false);
        due("the highest", x.segment(1, 0, Long.MAX_VALUE), 1);
        due("0", x.segment(1, 0, 0), 2);
        due("the lowest", x.segment(1, 0, Long.MIN_VALUE), 3);
        due("-1", x.segment(1, 0, -1), 4);
        due("above an int", x.segment(1, 0, 1L << 32), 5);
        due("by key, without a wrap-around", entries(x, 1), 3, 4, 2, 5, 1);
    }

    private static void noTwoOfOneKey() {
        LogicalPairs x = kinds(0, 1, 1, 0);
        x.segment(1, 0, 1);
        x.segment(1, 0, 2);
        due("one", x.segment(2, 1, 7), 3);
        due("of one kind and key", x.segment(2, 1, 7), -3);
        due("of another key", x.segment(2, 1, 8), 4);
        due("of another key, whose low half is the same", x.segment(2, 1, 7 + (1L << 32)), 5);
        due("of another kind", x.segment(3, 1, 7), 6);
        due("under another one", x.segment(2, 2, 7), 7);
        due("under none", x.segment(1, 0, 2), -3);
        due("under none, of another kind", x.segment(4, 0, 2), 8);
        due("key 0", x.segment(2, 1, 0), 9);
        due("key 0 again", x.segment(2, 1, 0), -3);
    }

    private static void keyOfDeletedOneIsFree() {
        LogicalPairs x = withRules();
        x.segment(1, 0, 1);
        x.segment(1, 0, 2);
        x.segment(3, 0, 1);
        x.relate(3, 1);
        x.delete(1);
        x.delete(2);
        due("it stays", x.there(1, 1), true);
        due("the key of one that stays", x.segment(1, 0, 1), 4);
        due("the key of a gone one", x.segment(1, 0, 2), 5);
        due("now it is there again", x.segment(1, 0, 1), -3);
    }

    private static void mayBeRelated() {
        LogicalPairs x = withRules();
        x.segment(1, 0, 1);
        x.segment(3, 0, 1);
        x.segment(3, 0, 2);
        due("not yet", x.told(4), 0);
        due("to one of another kind", x.relate(2, 3), -4);
        due("to one of the logical parent kind", x.relate(2, 1), 1);
        due("to one alone", x.relate(2, 1), -5);
        due("the third needn't be", x.child(1, 1, 1), 0);
    }

    private static void counted() {
        LogicalPairs x = ofOneKind(1, 4);
        due("none", x.count(1), 0);
        x.relate(2, 1);
        due("one", x.count(1), 1);
        x.relate(4, 1);
        x.relate(3, 2);
        due("two", x.count(1), 2);
        due("one by the other", x.count(2), 1);
        due("the second is deleted", x.delete(2), 1);
        due("the second stays", x.there(2, 1), true);
        due("one that stays is not there, so not counted", x.count(1), 1);
        x.delete(4);
        due("none any more", x.count(1), 0);
    }

    private static void thereTillDeleted() {
        LogicalPairs x = ofOneKind(1, 2);
        due("not before its making", x.there(3, 0), false);
        x.segment(1, 0, 3);
        due("from its making", x.there(3, 0), true);
        x.relate(1, 3);
        due("one with a count", x.there(3, 0), true);
        due("one that is there doesn't stay", x.there(3, 1), false);
        x.delete(3);
        due("not any more, though it stays", x.there(3, 0), false);
        x.delete(2);
        due("not any more, being gone", x.there(2, 0), false);
    }

    private static void staysWhileCounted() {
        LogicalPairs x = ofOneKind(1, 5);
        due("count 0", x.delete(5), 1);
        due("one without a count doesn't stay", x.there(5, 1), false);
        x.relate(2, 1);
        x.relate(3, 1);
        x.delete(1);
        due("count 2", x.there(1, 1), true);
        x.delete(2);
        due("count 1", x.there(1, 1), true);
        x.relate(4, 1);
        x.delete(3);
        due("count 1, of one that was related later", x.there(1, 1), true);
        x.delete(4);
        due("count 0 at last", x.there(1, 1), false);
    }

    /** Kind 2 is below kind 1, kind 3's logical parent; segment 2 is under 1; 3 is related to 2, 4 to 1. */
    private static LogicalPairs withBothParents() {
        LogicalPairs x = kinds(0, 1, 0, 0);
        x.parent(3, 2, 1);
        x.parent(4, 1, 1);
        x.segment(1, 0, 1);
        x.segment(2, 1, 1);
        x.segment(3, 0, 1);
        x.segment(4, 0, 1);
        x.relate(3, 2);
        x.relate(4, 1);
        return x;
    }

    private static void noOnesParent() {
        LogicalPairs x = withBothParents();
        due("the upper one", x.delete(1), 2);
        due("it stays", x.there(1, 1), true);
        due("it has no children under it", x.child(1, 0, 0), 0);
        due("it gets none", x.segment(2, 1, 9), -4);
        due("logically it is a parent", x.child(1, 1, 0), 4);
    }

    private static void noOnesChild() {
        LogicalPairs x = withBothParents();
        x.segment(2, 1, 2);
        due("the lower one", x.delete(2), 1);
        due("it stays", x.there(2, 1), true);
        due("no child any more", children(x, 1, 0), 5);
        due("nothing is above it", x.check(), 0);
        due("it is not taken with the one that was above it", x.delete(1), 2);
        due("it still stays", x.there(2, 1), true);
        pointersAre("one that stays", x, 2, 0, 0, 1);
    }

    private static void takesAllBelow() {
        LogicalPairs x = new LogicalPairs();
        for (int number = 1; number <= 15; number++) {
            x.kind(number - 1);
            x.segment(number, number - 1, 0);
        }
        x.segment(1, 0, 1);
        x.segment(2, 16, 0);
        due("the lowest alone", x.delete(15), 1);
        due("with all below it", x.delete(3), 12);
        due("those above it are there", x.there(2, 0), true);
        due("with what is there, not with what went before", x.delete(1), 2);
        due("another tree is there", x.told(2), 2);

        LogicalPairs all = kinds(0, 1);
        all.segment(1, 0, 0);
        for (int number = 2; number <= 250; number++) {
            all.segment(2, 1, number);
        }
        due("all 250", all.delete(1), 250);
    }

    private static void countBelowMatters() {
        for (int rule = 0; rule <= 2; rule++) {
            LogicalPairs x = kinds(0, 1, 2, 0);
            x.parent(4, 3, rule);
            x.segment(1, 0, 1);
            x.segment(2, 1, 1);
            x.segment(3, 2, 1);
            x.segment(4, 0, 1);
            x.relate(4, 3);
            due("the lowest has a count, by rule " + rule, x.delete(1), rule == 0 ? -5 : rule == 1 ? 3 : 4);
            due("the lowest stays, by rule " + rule, x.there(3, 1), rule == 1);
            due("the middle one doesn't, by rule " + rule, x.there(2, 1), false);
        }
    }

    private static void thoseThatGoTooDontMatter() {
        for (int rule = 0; rule <= 2; rule++) {
            LogicalPairs x = kinds(0, 1);
            x.parent(2, 1, rule);
            x.segment(1, 0, 1);
            x.segment(2, 1, 1);
            x.segment(2, 1, 2);
            x.relate(2, 1);
            x.relate(3, 1);
            due("those below it, by rule " + rule, x.delete(1), 3);
            due("it doesn't stay, by rule " + rule, x.there(1, 1), false);
            due("no relations are left, by rule " + rule, x.told(4), 0);
        }
    }

    private static void thoseThatGoTooByRuleTwo() {
        for (int rule = 0; rule <= 1; rule++) {
            // Segment 3 is under 2, which goes by rule 2 as it is related to 1; 3 is so by the other rule.
            LogicalPairs x = kinds(0, 0, 2);
            x.parent(2, 1, 2);
            x.parent(3, 1, rule);
            x.segment(1, 0, 1);
            x.segment(2, 0, 1);
            x.segment(3, 2, 1);
            x.relate(3, 1);
            if (rule == 0) {
                due("barred while it doesn't go too", x.delete(1), -5);
            }
            x.relate(2, 1);
            due("it goes too, by rule " + rule, x.delete(1), 3);
            due("nothing stays, by rule " + rule, x.told(3), 0);
        }
    }

    private static void ruleOfTheRelatedOnesKind() {
        // The kind of the one that is deleted has rule 0 of its own, for its own logical parent.
        LogicalPairs x = kinds(0, 0, 0);
        x.parent(1, 3, 0);
        x.parent(2, 1, 2);
        x.segment(1, 0, 1);
        x.segment(2, 0, 1);
        x.segment(3, 0, 1);
        x.relate(2, 1);
        x.relate(1, 3);
        due("rule 0 of the first one's kind", x.delete(3), -5);
        due("rule 2 of the second one's kind", x.delete(1), 2);
        due("none is related to it any more", x.delete(3), 1);

        LogicalPairs each = withRules();
        for (int kind = 1; kind <= 4; kind++) {
            each.segment(kind, 0, 1);
            each.relate(kind, 1);
        }
        due("one of each rule", each.delete(1), -5);
        each.delete(2);
        due("by rules 1 and 2", each.delete(1), 2);
        due("it stays by the one", each.there(1, 1), true);
        due("the other one went", each.there(4, 0), false);
        due("count", each.count(1), 1);
    }

    private static void ruleZeroBars() {
        LogicalPairs x = withRules();
        x.segment(1, 0, 1);
        x.segment(2, 0, 1);
        x.segment(2, 0, 2);
        due("one that may be related, but isn't", x.delete(3), 1);
        x.relate(2, 1);
        due("barred", x.delete(1), -5);
        due("it is there", x.there(1, 0), true);
        due("the one that bars may be deleted", x.delete(2), 1);
        due("barred no more", x.delete(1), 1);
    }

    private static void ruleOneStays() {
        LogicalPairs x = withRules();
        x.segment(1, 0, 1);
        x.segment(3, 0, 1);
        x.relate(2, 1);
        due("went", x.delete(1), 1);
        due("stays", x.there(1, 1), true);
        due("the related one is there", x.there(2, 0), true);
        due("the relation, too", x.child(1, 1, 0), 2);
        due("one that stays can't be deleted", x.delete(1), -5);
    }

    private static void ruleTwoGoesToo() {
        LogicalPairs x = withRules();
        x.kind(4);
        x.segment(1, 0, 1);
        x.segment(4, 0, 1);
        x.segment(4, 0, 2);
        x.segment(5, 2, 1);
        x.segment(5, 3, 1);
        x.relate(2, 1);
        due("with the related one and what is below it", x.delete(1), 3);
        due("the related one", x.there(2, 0), false);
        due("below it", x.there(4, 0), false);
        due("one that is not related", x.there(3, 0), true);
        due("nothing stays", x.told(3), 0);
    }

    private static void andSoOn() {
        LogicalPairs x = ofOneKind(2, 250);
        for (int number = 2; number <= 250; number++) {
            x.relate(number, number - 1);
        }
        due("from the 11th on, one by the other", x.delete(11), 240);
        due("those before are there", x.told(2), 10);

        // 1 takes 2 by rule 2; below 2 is 3, which takes 4 by rule 2; 5 is below 4, and 6 related to 5.
        LogicalPairs mixed = kinds(0, 0, 2, 0, 4, 0);
        mixed.parent(2, 1, 2);
        mixed.parent(4, 3, 2);
        mixed.parent(6, 5, 2);
        int[] under = {0, 0, 2, 0, 4, 0};
        for (int kind = 1; kind <= 6; kind++) {
            mixed.segment(kind, under[kind - 1], 1);
        }
        mixed.relate(6, 5);
        mixed.relate(4, 3);
        mixed.relate(2, 1);
        due("below and related in turn", mixed.delete(1), 6);
    }

    private static void andSoOnRoundARing() {
        for (int start = 1; start <= 4; start++) {
            LogicalPairs x = ofOneKind(2, 5);
            for (int each = 1; each <= 4; each++) {
                x.relate(each, each % 4 + 1);
            }
            x.relate(5, 1);
            due("from " + start, x.delete(start), 5);
            due("none is left", x.told(2) + x.told(3) + x.told(4), 0);
        }
        for (int rule = 0; rule <= 1; rule++) {
            LogicalPairs x = ofOneKind(rule, 2);
            x.relate(1, 2);
            x.relate(2, 1);
            due("a ring of rule " + rule, x.delete(1), rule == 0 ? -5 : 1);
            due("it stays by the other one, by rule " + rule, x.there(1, 1), rule == 1);
            due("the other one is related to it alone, by rule " + rule, x.count(2), rule == 0 ? 1 : 0);
        }
    }

    private static void nothingGoesIfBarred() {
        // 2 is under 1, 3 is related to 2 by rule 2, 4 is under 3, and 5 bars 4; 6 would let 1 stay.
        LogicalPairs x = kinds(0, 1, 0, 3, 0, 0);
        x.parent(3, 2, 2);
        x.parent(5, 4, 0);
        x.parent(6, 1, 1);
        x.index(2, false);
        int[] under = {0, 1, 0, 3, 0, 0};
        for (int kind = 1; kind <= 6; kind++) {
            x.segment(kind, under[kind - 1], 1);
        }
        x.relate(3, 2);
        x.relate(5, 4);
        x.relate(6, 1);
        pokeAll(x, 1, 2, 3, 4);
        due("barred", x.delete(1), -5);
        due("all are there", x.told(2), 6);
        due("none stays", x.told(3), 0);
        due("all relations are", x.told(4), 3);
        due("the child", x.child(1, 0, 0), 2);
        due("the logical child", x.child(1, 1, 0), 6);
        due("the index", x.entry(1, 0), 2);
        due("the key", x.segment(2, 1, 1), -3);
        due("the pointers are not set right", x.check(), 12);
        due("the last one may be deleted", x.delete(5), 1);
        due("now all go", x.delete(1), 4);
        due("and the first stays", x.there(1, 1), true);
    }

    private static void relatedToNoneAnyMore() {
        LogicalPairs x = withRules();
        x.segment(1, 0, 1);
        x.segment(2, 0, 1);
        x.segment(3, 0, 1);
        x.segment(4, 0, 1);
        for (int each = 2; each <= 4; each++) {
            x.relate(each, 1);
        }
        for (int each = 2; each <= 4; each++) {
            x.delete(each);
            due("count, when " + each + " went", x.count(1), 4 - each);
            due("relations, when " + each + " went", x.told(4), 4 - each);
        }
        due("no logical children", x.child(1, 1, 0), 0);
        due("it doesn't stay", x.delete(1), 1);
        due("it is gone", x.there(1, 1), false);
    }

    private static void stayingIsRelatedToNone() {
        LogicalPairs x = ofOneKind(1, 3);
        x.relate(2, 1);
        x.relate(3, 2);
        due("the middle one", x.delete(2), 1);
        due("it stays", x.there(2, 1), true);
        due("it was related to the first", x.count(1), 0);
        due("no logical child", x.child(1, 1, 0), 0);
        due("the last is still related to it", x.told(4), 1);
        due("the first doesn't stay", x.delete(1), 1);
        due("the first is gone", x.there(1, 1), false);
        pointersAre("the middle one", x, 2, 0, 0, 1);
    }

    private static void stayedAndIsGone() {
        LogicalPairs x = ofOneKind(1, 4);
        x.relate(2, 1);
        x.relate(3, 2);
        x.relate(4, 2);
        due("the second stays", x.delete(2), 1);
        due("the first had no other", x.delete(1), 1);
        due("not by the first of two", x.delete(3), 1);
        due("still", x.there(2, 1), true);
        due("by the last, and not counted with it", x.delete(4), 1);
        due("gone", x.there(2, 1), false);
        due("none stays", x.told(3), 0);
        due("it can't be poked", x.poke(2, 0, 0), -5);
        x.segment(1, 0, 1);
        due("it can't be related to", x.relate(5, 2), -5);
    }

    private static void mostIndexes() {
        LogicalPairs x = kinds(0);
        x.segment(1, 0, 0);
        for (int number = 1; number <= 9; number++) {
            x.index(1, true);
        }
        due("the tenth", x.index(1, false), 10);
        due("the eleventh", x.index(1, false), NONE);
        due("there are ten", x.told(5), 10);
        due("the tenth has its segments", x.entry(10, 0), 1);
        due("there is no eleventh", x.entry(11, 0), 0);
    }

    private static void indexesInStep() {
        LogicalPairs x = withRules();
        x.segment(1, 0, 1);
        x.index(1, false);
        due("one that was there before", entries(x, 1), 1);
        x.segment(1, 0, 2);
        x.segment(3, 0, 1);
        due("one that is made later, and none of another kind", entries(x, 1), 1, 2);
        x.relate(3, 1);
        x.delete(1);
        due("not one that stays", entries(x, 1), 2);
        x.delete(2);
        due("not a gone one", entries(x, 1));
        x.segment(1, 0, 1);
        due("the key once more", entries(x, 1), 4);
    }

    private static void indexesInOrder() {
        LogicalPairs x = kinds(0, 1);
        x.index(2, false);
        x.segment(1, 0, 1);
        x.segment(1, 0, 2);
        x.segment(1, 0, 3);
        x.segment(2, 3, 5);
        x.segment(2, 2, -5);
        x.segment(2, 1, 5);
        x.segment(2, 2, 5);
        x.segment(2, 1, Long.MIN_VALUE);
        x.segment(2, 1, Long.MAX_VALUE);
        due("by key, equal ones by number", entries(x, 1), 8, 5, 4, 6, 7, 9);
    }

    private static void sparse() {
        LogicalPairs x = kinds(0);
        x.index(1, true);
        x.index(1, false);
        x.segment(1, 0, 1);
        x.segment(1, 0, 0);
        x.segment(1, 0, -1);
        x.segment(1, 0, 1L << 32);
        due("without key 0", entries(x, 1), 3, 1, 4);
        due("with key 0", entries(x, 2), 3, 2, 1, 4);
    }

    private static void pointerAbove() {
        LogicalPairs x = withBothParents();
        due("none above", x.poke(1, 0, 0), 0);
        due("one above", x.poke(2, 0, 1), 1);
        due("it said what is true", x.check(), 0);
        x.delete(2);
        due("none above one that stays", x.poke(2, 0, 0), 0);
        due("that is true", x.check(), 0);
    }

    private static void pointerRelated() {
        LogicalPairs x = withRules();
        x.segment(1, 0, 1);
        x.segment(3, 0, 1);
        due("to none yet", x.poke(2, 1, 0), 0);
        x.relate(2, 1);
        due("to one", x.poke(2, 1, 1), 1);
        x.delete(1);
        due("to one that stays", x.poke(2, 1, 1), 1);
        due("the one that stays is related to none", x.poke(1, 1, 0), 0);
        due("it said what is true", x.check(), 0);
    }

    private static void pointerCount() {
        LogicalPairs x = ofOneKind(1, 3);
        due("none", x.poke(1, 2, 0), 0);
        x.relate(2, 1);
        x.relate(3, 1);
        due("two", x.poke(1, 2, 2), 2);
        x.delete(1);
        x.delete(2);
        due("of one that stays", x.poke(1, 2, 1), 1);
        due("it said what is true", x.check(), 0);
    }

    private static void poked() {
        LogicalPairs x = kinds(0);
        x.segment(1, 0, 1);
        int[] values = {Integer.MIN_VALUE, -2, -1, 1, 251, Integer.MAX_VALUE};
        for (int pointer = 0; pointer <= 2; pointer++) {
            int before = 0;
            for (int each : values) {
                due("pointer " + pointer + " said", x.poke(1, pointer, each), before);
                due("it is wrong", x.check(), 1);
                before = each;
            }
            due("poked back", x.poke(1, pointer, 0), Integer.MAX_VALUE);
            due("it is right", x.check(), 0);
        }
    }

    private static void goesByWhatIsTrue() {
        LogicalPairs x = kinds(0, 1, 0, 0);
        x.parent(3, 1, 0);
        x.parent(4, 1, 1);
        x.segment(1, 0, 1);
        x.segment(1, 0, 2);
        x.segment(2, 1, 1);
        x.segment(3, 0, 1);
        x.segment(4, 0, 1);
        x.relate(4, 1);
        x.poke(3, 0, 2);
        x.poke(4, 1, 2);
        x.poke(1, 2, 0);
        x.poke(2, 2, 5);
        x.poke(5, 1, 2);
        due("count of one that is said to have none", x.count(1), 1);
        due("count of one that is said to have five", x.count(2), 0);
        due("child", children(x, 1, 0), 3);
        due("no child", children(x, 2, 0));
        due("logical child", children(x, 1, 1), 4);
        due("no logical child", children(x, 2, 1));
        due("the key under the true one", x.segment(2, 1, 1), -3);
        due("barred by the true relation", x.delete(1), -5);
        due("not by what is said", x.delete(2), 1);
        due("it doesn't stay", x.there(2, 1), false);
        due("related already", x.relate(4, 1), -5);
        due("related to none, whatever is said", x.relate(5, 1), 1);
        x.delete(4);
        x.poke(3, 0, 0);
        due("it takes what is truly below it", x.delete(1), 2);
    }

    private static void deletedSetRight() {
        LogicalPairs x = withBothParents();
        x.segment(4, 0, 2);
        x.relate(5, 1);
        pokeAll(x, 1, 2);
        due("poked", x.check(), 6);
        due("both stay", x.delete(1), 2);
        due("both do", x.told(3), 2);
        due("all are right", x.check(), 0);
        pointersAre("the upper one", x, 1, 0, 0, 2);
        pointersAre("the lower one", x, 2, 0, 0, 1);
    }

    private static void relatedSetRight() {
        LogicalPairs x = kinds(0, 1, 0, 3);
        x.parent(2, 4, 1);
        x.segment(1, 0, 1);
        x.segment(2, 1, 1);
        x.segment(3, 0, 1);
        x.segment(4, 3, 1);
        pokeAll(x, 2, 4);
        due("poked", x.check(), 6);
        x.relate(2, 4);
        due("all of both are right", x.check(), 0);
        pointersAre("the one that is related", x, 2, 1, 4, 0);
        pointersAre("the other one", x, 4, 3, 0, 1);
    }

    private static void countedSetRight() {
        LogicalPairs x = kinds(0, 1, 0);
        x.parent(3, 2, 1);
        x.segment(1, 0, 1);
        x.segment(2, 1, 1);
        x.segment(2, 1, 2);
        for (int key = 1; key <= 4; key++) {
            x.segment(3, 0, key);
            x.relate(3 + key, key <= 2 ? 2 : 3);
        }
        x.delete(3);
        pokeAll(x, 2, 3);
        due("poked", x.check(), 6);
        x.delete(4);
        due("one that is there and whose count falls", x.check(), 3);
        due("not yet the one that stays", x.broken(0), 3);
        x.delete(6);
        due("one that stays and whose count falls", x.check(), 0);
        pointersAre("the one that is there", x, 2, 1, 0, 1);
        pointersAre("the one that stays", x, 3, 0, 0, 1);
    }

    private static void othersNotSetRight() {
        LogicalPairs x = withRules();
        x.kind(1);
        x.segment(1, 0, 1);
        x.segment(3, 0, 1);
        x.segment(3, 0, 2);
        x.segment(1, 0, 2);
        pokeAll(x, 1, 2, 3, 4);
        due("poked", x.check(), 12);
        x.segment(5, 1, 1);
        due("a new segment changes no pointer of the one above it", x.check(), 12);
        due("a relate that is refused changes none", x.relate(2, 3), -4);
        due("as before", x.check(), 12);
        x.relate(2, 1);
        due("relate changes those of two", x.check(), 6);
        pokeAll(x, 1, 2);
        x.delete(1);
        due("delete changes none of those that are related to one that stays", x.check(), 9);
        due("the related one is wrong", x.broken(0), 2);
        x.kind(0);
        x.index(1, false);
        due("nor do other calls", x.check(), 9);
    }
}
