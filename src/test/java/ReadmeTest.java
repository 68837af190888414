import java.nio.file.Files;
import java.nio.file.Path;
import java.util.ArrayList;
import java.util.List;

/** The example of README.md answers what README.md says: each call stands there in the words below. */
public final class ReadmeTest {
    private static final List<String> CALLS = new ArrayList<>();
    private static int wrong = 0;

    private static void due(String call, Object got, Object want) {
        CALLS.add(call + " // " + want);
        if (!got.equals(want)) {
            wrong++;
            System.out.println(call + " answered " + got + ", README.md says " + want);
        }
    }

    private static void example() {
        LogicalPairs pairs = new LogicalPairs();
        int course = pairs.kind(0);
        due("int course = pairs.kind(0);", course, 1);
        int student = pairs.kind(0);
        due("int student = pairs.kind(0);", student, 2);
        int seat = pairs.kind(course);
        due("int seat = pairs.kind(course);", seat, 3);
        due("pairs.parent(seat, student, 1);", pairs.parent(seat, student, 1), 1);
        int seats = pairs.index(seat, false);
        due("int seats = pairs.index(seat, false);", seats, 1);

        int java = pairs.segment(course, 0, 101);
        due("int java = pairs.segment(course, 0, 101);", java, 1);
        int ann = pairs.segment(student, 0, 7);
        due("int ann = pairs.segment(student, 0, 7);", ann, 2);
        int first = pairs.segment(seat, java, 1);
        due("int first = pairs.segment(seat, java, 1);", first, 3);
        due("pairs.segment(seat, java, 1);", pairs.segment(seat, java, 1), -3);
        due("pairs.relate(first, ann);", pairs.relate(first, ann), 1);
        due("pairs.count(ann);", pairs.count(ann), 1);
        due("pairs.child(java, 0, 0);", pairs.child(java, 0, 0), 3);
        due("pairs.child(ann, 1, 0);", pairs.child(ann, 1, 0), 3);
        due("pairs.entry(seats, 0);", pairs.entry(seats, 0), 3);

        due("pairs.delete(ann);", pairs.delete(ann), 1);
        due("pairs.there(ann, 0);", pairs.there(ann, 0), false);
        due("pairs.there(ann, 1);", pairs.there(ann, 1), true);
        due("pairs.poke(ann, 2, 9);", pairs.poke(ann, 2, 9), 1);
        due("pairs.check();", pairs.check(), 1);
        due("pairs.broken(0);", pairs.broken(0), 2);
        due("pairs.delete(java);", pairs.delete(java), 2);
        due("pairs.there(ann, 1);", pairs.there(ann, 1), false);
        due("pairs.told(1);", pairs.told(1), 3);
    }

    /** The example's lines that say what a call answers, with their spaces made one. */
    private static List<String> told() throws java.io.IOException {
        List<String> lines = new ArrayList<>();
        for (String line : Files.readAllLines(Path.of("README.md"))) {
            if (line.contains("pairs.") && line.contains("//")) {
                lines.add(line.split(":")[0].trim().replaceAll("\\s+", " "));
            }
        }
        return lines;
    }

    public static void main(String[] args) throws java.io.IOException {
        example();
        if (!told().equals(CALLS)) {
            wrong++;
            System.out.println("README.md has " + told() + ", tested is " + CALLS);
        }
        System.out.println(wrong == 0 ? "README.md's example is as due" : "README.md's example is not as due");
        if (wrong != 0) {
            System.exit(1);
        }
    }
}
