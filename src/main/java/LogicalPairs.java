/**
 * Segments in trees whose children may be children of a segment of another tree, too.
 *
 * What is true of the segments and what their pointers say are kept apart: poke changes only what
 * a pointer says, and every other call goes by what is true.
 */
public final class LogicalPairs {

    public static final int NONE = -1;

    private static final int NO_SUCH = -2;
    private static final int KEY_IS_THERE = -3;
    private static final int NOT_SO = -4;
    private static final int NOT_NOW = -5;

    private static final int MOST_KINDS = 15;
    private static final int MOST_SEGMENTS = 250;
    private static final int MOST_INDEXES = 10;

    private static final int RULE_PHYSICAL = 0;
    private static final int RULE_VIRTUAL = 2;

    private static final int SIDE_PHYSICAL = 0;
    private static final int SIDE_LOGICAL = 1;

    private static final int GONE = 0;
    private static final int THERE = 1;
    private static final int STAYS = 2;

    private static final int POINTER_ABOVE = 0;
    private static final int POINTER_RELATED = 1;
    private static final int POINTERS = 3;

    private final Kinds kinds;
    private final Segments segments;
    private final Indexes indexes;
    private final Deletion deletion;

    public LogicalPairs() {
        kinds = new Kinds();
        segments = new Segments();
        indexes = new Indexes();
        deletion = new Deletion(kinds, segments);
    }

    public int kind(int above) {
        if (above != 0 && !kinds.has(above)) {
            return NO_SUCH;
        }
        return kinds.add(above);
    }

    public int parent(int kind, int other, int rule) {
        if (!kinds.has(kind) || !kinds.has(other)) {
            return NO_SUCH;
        }
        if (rule < RULE_PHYSICAL || rule > RULE_VIRTUAL) {
            return NOT_SO;
        }
        if (segments.wereOf(kind)) {
            return NOT_NOW;
        }
        if (kinds.logicalParent[kind] != 0) {
            return 0;
        }
        kinds.logicalParent[kind] = other;
        kinds.rule[kind] = rule;
        return 1;
    }

    public int segment(int kind, int under, long key) {
        if (!kinds.has(kind)) {
            return NO_SUCH;
        }
        if (!mayBeUnder(kind, under)) {
            return NOT_SO;
        }
        if (segments.hasKey(kind, under, key)) {
            return KEY_IS_THERE;
        }
        return segments.add(kind, under, key);
    }

    private boolean mayBeUnder(int kind, int under) {
        int above = kinds.above[kind];
        if (above == 0) {
            return under == 0;
        }
        return segments.is(under, THERE) && segments.kindOf[under] == above;
    }

    public int relate(int segment, int other) {
        if (!segments.has(segment) || !segments.has(other)) {
            return NO_SUCH;
        }
        if (segment == other || kinds.logicalParent[segments.kindOf[segment]] != segments.kindOf[other]) {
            return NOT_SO;
        }
        if (!segments.is(segment, THERE) || segments.is(other, GONE) || segments.relatedTo[segment] != 0) {
            return NOT_NOW;
        }
        segments.join(segment, other);
        return 1;
    }

    public int delete(int segment) {
        if (!segments.has(segment)) {
            return NO_SUCH;
        }
        if (!segments.is(segment, THERE)) {
            return NOT_NOW;
        }
        deletion.gather(segment);
        if (deletion.isBarred()) {
            return NOT_NOW;
        }
        deletion.carryOut();
        return deletion.size;
    }

    public boolean there(int segment, int side) {
        if (side == SIDE_PHYSICAL) {
            return segments.is(segment, THERE);
        }
        return side == SIDE_LOGICAL && segments.is(segment, STAYS);
    }

    public int child(int segment, int side, int i) {
        if (!segments.has(segment) || i < 0) {
            return 0;
        }
        if (side == SIDE_PHYSICAL) {
            return physicalChild(segment, i);
        }
        return side == SIDE_LOGICAL ? segments.logicalChild(segment, i) : 0;
    }

    private int physicalChild(int segment, int i) {
        int left = i;
        for (int kind = 1; kind <= kinds.size; kind++) {
            if (kinds.above[kind] != segments.kindOf[segment]) {
                continue;
            }
            for (int place = 0; place < segments.size; place++) {
                int each = segments.byKey[place];
                if (segments.isOneUnder(each, kind, segment) && left-- == 0) {
                    return each;
                }
            }
        }
        return 0;
    }

    public int count(int segment) {
        return segments.has(segment) ? segments.counted[segment] : NO_SUCH;
    }

    public int index(int kind, boolean sparse) {
        if (!kinds.has(kind)) {
            return NO_SUCH;
        }
        return indexes.add(kind, sparse);
    }

    public int entry(int index, int i) {
        if (!indexes.has(index) || i < 0) {
            return 0;
        }
        int left = i;
        for (int place = 0; place < segments.size; place++) {
            int each = segments.byKey[place];
            if (isIn(index, each) && left-- == 0) {
                return each;
            }
        }
        return 0;
    }

    private boolean isIn(int index, int segment) {
        return segments.is(segment, THERE)
            && segments.kindOf[segment] == indexes.kindOf[index]
            && !(indexes.sparse[index] && segments.keyOf[segment] == 0);
    }

    public int poke(int segment, int pointer, int to) {
        if (!segments.has(segment)) {
            return NO_SUCH;
        }
        if (pointer < 0 || pointer >= POINTERS) {
            return NOT_SO;
        }
        if (segments.is(segment, GONE)) {
            return NOT_NOW;
        }
        return segments.say(segment, pointer, to);
    }

    public int check() {
        int found = 0;
        for (int each = 1; each <= segments.size; each++) {
            found += segments.wrongPointers(each);
        }
        return found;
    }

    public int broken(int i) {
        if (i < 0) {
            return 0;
        }
        int left = i;
        for (int each = 1; each <= segments.size; each++) {
            left -= segments.wrongPointers(each);
            if (left < 0) {
                return each;
            }
        }
        return 0;
    }

    public int told(int what) {
        switch (what) {
            case 0:
                return kinds.size;
            case 1:
                return segments.size;
            case 2:
                return segments.howMany(THERE);
            case 3:
                return segments.howMany(STAYS);
            case 4:
                return segments.relations();
            case 5:
                return indexes.size;
            default:
                return NONE;
        }
    }

    /** The kinds, in rows by their numbers; place 0 is no kind. */
    private static final class Kinds {
        int size;
        final int[] above = new int[MOST_KINDS + 1];
        final int[] logicalParent = new int[MOST_KINDS + 1];
        final int[] rule = new int[MOST_KINDS + 1];

        boolean has(int kind) {
            return kind >= 1 && kind <= size;
        }

        int add(int aboveIt) {
            if (size >= MOST_KINDS) {
                return NONE;
            }
            size++;
            above[size] = aboveIt;
            return size;
        }
    }

    /** The segments, in rows by their numbers, gone ones too; place 0 is no segment. */
    private static final class Segments {
        int size;
        final int[] kindOf = new int[MOST_SEGMENTS + 1];
        final int[] aboveOf = new int[MOST_SEGMENTS + 1];
        final long[] keyOf = new long[MOST_SEGMENTS + 1];
        final int[] state = new int[MOST_SEGMENTS + 1];
        final int[] relatedTo = new int[MOST_SEGMENTS + 1];
        final int[] counted = new int[MOST_SEGMENTS + 1];
        /** What the pointers say, POINTERS places for each segment. */
        final int[] said = new int[(MOST_SEGMENTS + 1) * POINTERS];
        /** All segments by key, then number: keys never change, so every ordered answer walks this row. */
        final int[] byKey = new int[MOST_SEGMENTS];

        boolean has(int segment) {
            return segment >= 1 && segment <= size;
        }

        boolean is(int segment, int wanted) {
            return has(segment) && state[segment] == wanted;
        }

        boolean isOneUnder(int segment, int kind, int under) {
            return state[segment] == THERE && kindOf[segment] == kind && aboveOf[segment] == under;
        }

        boolean wereOf(int kind) {
            for (int each = 1; each <= size; each++) {
                if (kindOf[each] == kind) {
                    return true;
                }
            }
            return false;
        }

        boolean hasKey(int kind, int under, long key) {
            for (int each = 1; each <= size; each++) {
                if (keyOf[each] == key && isOneUnder(each, kind, under)) {
                    return true;
                }
            }
            return false;
        }

        int add(int kind, int under, long key) {
            if (size >= MOST_SEGMENTS) {
                return NONE;
            }
            size++;
            kindOf[size] = kind;
            aboveOf[size] = under;
            keyOf[size] = key;
            state[size] = THERE;
            setRight(size);
            putByKey(size);
            return size;
        }

        /** The newest has the highest number, so it comes behind all of its key. */
        private void putByKey(int newest) {
            int place = newest - 1;
            while (place > 0 && keyOf[byKey[place - 1]] > keyOf[newest]) {
                byKey[place] = byKey[place - 1];
                place--;
            }
            byKey[place] = newest;
        }

        int logicalChild(int segment, int i) {
            int left = i;
            for (int place = 0; place < size; place++) {
                int each = byKey[place];
                if (relatedTo[each] == segment && left-- == 0) {
                    return each;
                }
            }
            return 0;
        }

        void join(int segment, int other) {
            relatedTo[segment] = other;
            counted[other]++;
            setRight(segment);
            setRight(other);
        }

        void part(int segment) {
            int other = relatedTo[segment];
            if (other == 0) {
                return;
            }
            relatedTo[segment] = 0;
            counted[other]--;
            setRight(other);
        }

        private int truth(int segment, int pointer) {
            if (pointer == POINTER_ABOVE) {
                return aboveOf[segment];
            }
            return pointer == POINTER_RELATED ? relatedTo[segment] : counted[segment];
        }

        void setRight(int segment) {
            for (int pointer = 0; pointer < POINTERS; pointer++) {
                said[segment * POINTERS + pointer] = truth(segment, pointer);
            }
        }

        int say(int segment, int pointer, int to) {
            int before = said[segment * POINTERS + pointer];
            said[segment * POINTERS + pointer] = to;
            return before;
        }

        int wrongPointers(int segment) {
            if (state[segment] == GONE) {
                return 0;
            }
            int wrong = 0;
            for (int pointer = 0; pointer < POINTERS; pointer++) {
                if (said[segment * POINTERS + pointer] != truth(segment, pointer)) {
                    wrong++;
                }
            }
            return wrong;
        }

        /** No one's parent and no one's child from now on, but for those that are related to it. */
        void takeAway(int segment) {
            state[segment] = STAYS;
            aboveOf[segment] = 0;
            part(segment);
        }

        void dropThoseWithoutCount() {
            for (int each = 1; each <= size; each++) {
                if (state[each] == STAYS && counted[each] == 0) {
                    state[each] = GONE;
                }
            }
        }

        int howMany(int wanted) {
            int found = 0;
            for (int each = 1; each <= size; each++) {
                if (state[each] == wanted) {
                    found++;
                }
            }
            return found;
        }

        int relations() {
            int found = 0;
            for (int each = 1; each <= size; each++) {
                if (relatedTo[each] != 0) {
                    found++;
                }
            }
            return found;
        }
    }

    /** The indexes; what they hold is read from the segments, so they can't fall out of step. */
    private static final class Indexes {
        int size;
        final int[] kindOf = new int[MOST_INDEXES + 1];
        final boolean[] sparse = new boolean[MOST_INDEXES + 1];

        boolean has(int index) {
            return index >= 1 && index <= size;
        }

        int add(int kind, boolean isSparse) {
            if (size >= MOST_INDEXES) {
                return NONE;
            }
            size++;
            kindOf[size] = kind;
            sparse[size] = isSparse;
            return size;
        }
    }

    /** One delete: all that would go is gathered first, since a relation of one that goes too bars nothing. */
    private static final class Deletion {
        private final Kinds kinds;
        private final Segments segments;
        private final boolean[] goes = new boolean[MOST_SEGMENTS + 1];
        private final int[] going = new int[MOST_SEGMENTS];
        int size;

        Deletion(Kinds kinds, Segments segments) {
            this.kinds = kinds;
            this.segments = segments;
        }

        void gather(int first) {
            for (int each = 0; each <= MOST_SEGMENTS; each++) {
                goes[each] = false;
            }
            size = 0;
            add(first);
            for (int place = 0; place < size && place < MOST_SEGMENTS; place++) {
                addThoseTakenBy(going[place]);
            }
        }

        private void addThoseTakenBy(int taken) {
            for (int each = 1; each <= segments.size; each++) {
                if (segments.aboveOf[each] == taken || isRelatedByRule(each, taken, RULE_VIRTUAL)) {
                    add(each);
                }
            }
        }

        private void add(int segment) {
            if (goes[segment] || size >= MOST_SEGMENTS) {
                return;
            }
            goes[segment] = true;
            going[size] = segment;
            size++;
        }

        private boolean isRelatedByRule(int segment, int other, int rule) {
            return segments.relatedTo[segment] == other && kinds.rule[segments.kindOf[segment]] == rule;
        }

        boolean isBarred() {
            for (int each = 1; each <= segments.size; each++) {
                int other = segments.relatedTo[each];
                if (!goes[each] && goes[other] && isRelatedByRule(each, other, RULE_PHYSICAL)) {
                    return true;
                }
            }
            return false;
        }

        void carryOut() {
            for (int place = 0; place < size; place++) {
                segments.takeAway(going[place]);
            }
            for (int place = 0; place < size; place++) {
                segments.setRight(going[place]);
            }
            segments.dropThoseWithoutCount();
        }
    }
}
