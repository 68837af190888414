import java.lang.reflect.Constructor;
import java.lang.reflect.Field;
import java.lang.reflect.Method;
import java.lang.reflect.Modifier;
import java.util.Set;
import java.util.TreeSet;

/** The class shows the document's face and nothing else (rule 1 of LANGUAGE.md). */
public final class FaceTest {
    private static final Set<String> FACE = Set.of(
        "public static final int LogicalPairs.NONE",
        "public LogicalPairs()",
        "public int LogicalPairs.kind(int)",
        "public int LogicalPairs.parent(int,int,int)",
        "public int LogicalPairs.segment(int,int,long)",
        "public int LogicalPairs.relate(int,int)",
        "public int LogicalPairs.delete(int)",
        "public boolean LogicalPairs.there(int,int)",
        "public int LogicalPairs.child(int,int,int)",
        "public int LogicalPairs.count(int)",
        "public int LogicalPairs.index(int,boolean)",
        "public int LogicalPairs.entry(int,int)",
        "public int LogicalPairs.poke(int,int,int)",
        "public int LogicalPairs.check()",
        "public int LogicalPairs.broken(int)",
        "public int LogicalPairs.told(int)");

    public static void main(String[] args) {
        Set<String> seen = new TreeSet<>();
        Set<String> publicNames = new TreeSet<>();
        Set<String> privateNames = new TreeSet<>();
        for (Field field : LogicalPairs.class.getDeclaredFields()) {
            if (!Modifier.isPrivate(field.getModifiers())) {
                seen.add(field.toString());
            }
        }
        for (Constructor<?> constructor : LogicalPairs.class.getDeclaredConstructors()) {
            seen.add(constructor.toString());
        }
        for (Method method : LogicalPairs.class.getDeclaredMethods()) {
            boolean hidden = Modifier.isPrivate(method.getModifiers());
            (hidden ? privateNames : publicNames).add(method.getName());
            if (!hidden) {
                seen.add(method.toString());
            }
        }
        privateNames.retainAll(publicNames);
        boolean isFinal = Modifier.toString(LogicalPairs.class.getModifiers()).equals("public final");
        if (!seen.equals(FACE) || !privateNames.isEmpty() || !isFinal) {
            System.out.println("the face is " + seen + ", names used twice: " + privateNames + ", public final: " + isFinal);
            System.exit(1);
        }
        System.out.println("the face is as due");
    }
}
