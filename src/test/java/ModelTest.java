import java.util.ArrayList;
import java.util.Comparator;
import java.util.LinkedHashSet;
import java.util.List;
import java.util.Random;
import java.util.Set;

/**
 * Long runs of calls, against a plain model that keeps no counts, orders or rows but works every
 * answer out anew from the document's terms. The seeds are fixed, so every run is the same.
 */
public final class ModelTest {
    private static final int RUNS = 3000;
    private static final int CALLS = 512;

    private static final class Kind {
        int above;
        int logical;
        int rule;
    }

    private static final class Seg {
        int number;
        int kind;
        long key;
        Seg above;
        Seg related;
        boolean there = true;
        boolean deleted;
        int[] said = new int[3];
    }

    private static final class Index {
        int kind;
        boolean sparse;
    }

    private static final class Model {
        final List<Kind> kinds = new ArrayList<>();
        final List<Seg> segs = new ArrayList<>();
        final List<Index> indexes = new ArrayList<>();

        Kind kindAt(int k) {
            return k >= 1 && k <= kinds.size() ? kinds.get(k - 1) : null;
        }

        Seg segAt(int s) {
            return s >= 1 && s <= segs.size() ? segs.get(s - 1) : null;
        }

        List<Seg> relatedTo(Seg s) {
            return segs.stream().filter(t -> t.there && t.related == s)
                .sorted(Comparator.comparingLong((Seg t) -> t.key).thenComparingInt(t -> t.number)).toList();
        }

        List<Seg> under(Seg s) {
            return segs.stream().filter(t -> t.there && t.above == s)
                .sorted(Comparator.comparingInt((Seg t) -> t.kind).thenComparingLong(t -> t.key)).toList();
        }

        boolean stays(Seg s) {
            return s.deleted && !relatedTo(s).isEmpty();
        }

        int truth(Seg s, int pointer) {
            if (pointer == 2) {
                return relatedTo(s).size();
            }
            Seg other = pointer == 0 ? s.above : s.related;
            return other == null ? 0 : other.number;
        }

        void setRight(Seg s) {
            for (int p = 0; p < 3; p++) {
                s.said[p] = truth(s, p);
            }
        }

        int kind(int above) {
            if (above != 0 && kindAt(above) == null) {
                return -2;
            }
            if (kinds.size() == 15) {
                return -1;
            }
            Kind made = new Kind();
            made.above = above;
            kinds.add(made);
            return kinds.size();
        }

        int parent(int kind, int other, int rule) {
            if (kindAt(kind) == null || kindAt(other) == null) {
                return -2;
            }
            if (rule != 0 && rule != 1 && rule != 2) {
                return -4;
            }
            if (segs.stream().anyMatch(s -> s.kind == kind)) {
                return -5;
            }
            if (kindAt(kind).logical != 0) {
                return 0;
            }
            kindAt(kind).logical = other;
            kindAt(kind).rule = rule;
            return 1;
        }

        int segment(int kind, int under, long key) {
            if (kindAt(kind) == null) {
                return -2;
            }
            int above = kindAt(kind).above;
            Seg on = segAt(under);
            if (above == 0 ? under != 0 : on == null || !on.there || on.kind != above) {
                return -4;
            }
            if (under(on).stream().anyMatch(s -> s.kind == kind && s.key == key)) {
                return -3;
            }
            if (segs.size() == 250) {
                return -1;
            }
            Seg made = new Seg();
            segs.add(made);
            made.number = segs.size();
            made.kind = kind;
            made.key = key;
            made.above = on;
            setRight(made);
            return made.number;
        }

        int relate(int segment, int other) {
            Seg from = segAt(segment);
            Seg to = segAt(other);
            if (from == null || to == null) {
                return -2;
            }
            if (from == to || kindAt(from.kind).logical != to.kind) {
                return -4;
            }
            if (!from.there || !(to.there || stays(to)) || from.related != null) {
                return -5;
            }
            from.related = to;
            setRight(from);
            setRight(to);
            return 1;
        }

        void take(Seg s, Set<Seg> going) {
            if (!going.add(s)) {
                return;
            }
            under(s).forEach(t -> take(t, going));
            relatedTo(s).stream().filter(t -> kindAt(t.kind).rule == 2).forEach(t -> take(t, going));
        }

        int delete(int segment) {
            Seg first = segAt(segment);
            if (first == null) {
                return -2;
            }
            if (!first.there) {
                return -5;
            }
            Set<Seg> going = new LinkedHashSet<>();
            take(first, going);
            for (Seg s : going) {
                for (Seg t : relatedTo(s)) {
                    if (!going.contains(t) && kindAt(t.kind).rule == 0) {
                        return -5;
                    }
                }
            }
            Set<Seg> changed = new LinkedHashSet<>(going);
            for (Seg s : going) {
                if (s.related != null) {
                    changed.add(s.related);
                }
                s.there = false;
                s.deleted = true;
                s.above = null;
                s.related = null;
            }
            changed.forEach(this::setRight);
            return going.size();
        }

        int child(int segment, int side, int i) {
            Seg s = segAt(segment);
            if (s == null || side != 0 && side != 1) {
                return 0;
            }
            return at(side == 0 ? under(s) : relatedTo(s), i);
        }

        int at(List<Seg> list, int i) {
            return i >= 0 && i < list.size() ? list.get(i).number : 0;
        }

        int there(int segment, int side) {
            Seg s = segAt(segment);
            return s != null && (side == 0 && s.there || side == 1 && stays(s)) ? 1 : 0;
        }

        int count(int segment) {
            return segAt(segment) == null ? -2 : relatedTo(segAt(segment)).size();
        }

        int index(int kind, boolean sparse) {
            if (kindAt(kind) == null) {
                return -2;
            }
            if (indexes.size() == 10) {
                return -1;
            }
            Index made = new Index();
            made.kind = kind;
            made.sparse = sparse;
            indexes.add(made);
            return indexes.size();
        }

        int entry(int index, int i) {
            if (index < 1 || index > indexes.size()) {
                return 0;
            }
            Index of = indexes.get(index - 1);
            return at(segs.stream().filter(s -> s.there && s.kind == of.kind && !(of.sparse && s.key == 0))
                .sorted(Comparator.comparingLong((Seg s) -> s.key).thenComparingInt(s -> s.number)).toList(), i);
        }

        int poke(int segment, int pointer, int to) {
            Seg s = segAt(segment);
            if (s == null) {
                return -2;
            }
            if (pointer < 0 || pointer > 2) {
                return -4;
            }
            if (!s.there && !stays(s)) {
                return -5;
            }
            int before = s.said[pointer];
            s.said[pointer] = to;
            return before;
        }

        List<Seg> wrong() {
            List<Seg> found = new ArrayList<>();
            for (Seg s : segs) {
                for (int p = 0; p < 3 && (s.there || stays(s)); p++) {
                    if (s.said[p] != truth(s, p)) {
                        found.add(s);
                    }
                }
            }
            return found;
        }

        int told(int what) {
            return switch (what) {
                case 0 -> kinds.size();
                case 1 -> segs.size();
                case 2 -> (int) segs.stream().filter(s -> s.there).count();
                case 3 -> (int) segs.stream().filter(this::stays).count();
                case 4 -> segs.stream().mapToInt(s -> relatedTo(s).size()).sum();
                case 5 -> indexes.size();
                default -> -1;
            };
        }
    }

    private final Random random;
    private final LogicalPairs x = new LogicalPairs();
    private final Model model = new Model();
    private String call;
    private long got;
    private long want;

    private ModelTest(int seed) {
        random = new Random(seed);
    }

    private int upTo(int most) {
        int odd = random.nextInt(200);
        if (odd == 0) {
            return random.nextInt();
        }
        if (odd == 1) {
            return -1;
        }
        return random.nextInt(most + 2);
    }

    private int someSegment() {
        return upTo(model.segs.size());
    }

    private int someKind() {
        return upTo(model.kinds.size());
    }

    private long someKey() {
        return random.nextInt(50) == 0 ? random.nextLong() : random.nextInt(9) - 3;
    }

    /** Mostly one that fits: by chance alone, few segments would be under others or related. */
    private int fitting(int kind) {
        List<Seg> fit = model.segs.stream().filter(s -> s.kind == kind && (s.there || model.stays(s))).toList();
        return fit.isEmpty() || random.nextInt(8) == 0 ? someSegment() : fit.get(random.nextInt(fit.size())).number;
    }

    private void put(String name, long answered, long due) {
        call = name;
        got = answered;
        want = due;
    }

    /** The opening makes kinds and logical parents alone: those come too late once there are segments. */
    private void build(boolean opening) {
        int a = someKind();
        switch (random.nextInt(opening ? 4 : 10)) {
            case 0, 1 -> put("kind " + a, x.kind(a), model.kind(a));
            case 2, 3 -> {
                int b = someKind();
                int c = upTo(2);
                put("parent " + a + " " + b + " " + c, x.parent(a, b, c), model.parent(a, b, c));
            }
            case 4 -> {
                boolean sparse = random.nextBoolean();
                put("index " + a + " " + sparse, x.index(a, sparse), model.index(a, sparse));
            }
            default -> {
                Kind k = model.kindAt(a);
                int b = k == null || k.above == 0 ? random.nextInt(8) == 0 ? someSegment() : 0 : fitting(k.above);
                long key = someKey();
                put("segment " + a + " " + b + " " + key, x.segment(a, b, key), model.segment(a, b, key));
            }
        }
    }

    private int relatable() {
        List<Seg> fit = model.segs.stream()
            .filter(s -> s.there && s.related == null && model.kindAt(s.kind).logical != 0).toList();
        return fit.isEmpty() || random.nextInt(4) == 0 ? someSegment() : fit.get(random.nextInt(fit.size())).number;
    }

    private void change() {
        int a = someSegment();
        switch (random.nextInt(8)) {
            case 0 -> put("delete " + a, x.delete(a), model.delete(a));
            case 1, 2 -> {
                int b = upTo(2);
                int c = upTo(4);
                put("poke " + a + " " + b + " " + c, x.poke(a, b, c), model.poke(a, b, c));
            }
            default -> {
                int from = relatable();
                Seg s = model.segAt(from);
                int to = s == null ? someSegment() : fitting(model.kindAt(s.kind).logical);
                put("relate " + from + " " + to, x.relate(from, to), model.relate(from, to));
            }
        }
    }

    private void ask() {
        int a = someSegment();
        int b = upTo(1);
        int i = upTo(4);
        switch (random.nextInt(7)) {
            case 0 -> put("there " + a + " " + b, x.there(a, b) ? 1 : 0, model.there(a, b));
            case 1 -> put("child " + a + " " + b + " " + i, x.child(a, b, i), model.child(a, b, i));
            case 2 -> put("count " + a, x.count(a), model.count(a));
            case 3 -> {
                int index = upTo(model.indexes.size());
                put("entry " + index + " " + i, x.entry(index, i), model.entry(index, i));
            }
            case 4 -> put("check", x.check(), model.wrong().size());
            case 5 -> put("broken " + i, x.broken(i), model.at(model.wrong(), i));
            default -> {
                int what = upTo(5);
                put("told " + what, x.told(what), model.told(what));
            }
        }
    }

    private boolean isAsDue(int seed) {
        StringBuilder calls = new StringBuilder();
        for (int n = 0; n < CALLS; n++) {
            int part = random.nextInt(10);
            if (n < 20 || part < 4) {
                build(n < 14);
            } else if (part < 7) {
                change();
            } else {
                ask();
            }
            calls.append(call).append(" -> ").append(got).append('\n');
            if (got != want) {
                System.out.println("seed " + seed + ":\n" + calls + "due is " + want);
                return false;
            }
        }
        return true;
    }

    public static void main(String[] args) {
        for (int seed = 1; seed <= RUNS; seed++) {
            if (!new ModelTest(seed).isAsDue(seed)) {
                System.exit(1);
            }
        }
        System.out.println(RUNS + " runs are as the model's");
    }
}
