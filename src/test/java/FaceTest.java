import java.lang.reflect.Constructor;
import java.lang.reflect.Field;
import java.lang.reflect.Method;
import java.lang.reflect.Modifier;
import java.util.TreeSet;

/** The class has the face of the document and nothing else that others can see. */
public final class FaceTest {
    private static final String[] FACE = {
        "public MeteredSheets()",
        "public boolean MeteredSheets.isMarked(int) throws java.lang.IllegalArgumentException",
        "public int MeteredSheets.budget(int) throws java.lang.IllegalArgumentException",
        "public int MeteredSheets.caused(int) throws java.lang.IllegalArgumentException",
        "public int MeteredSheets.earned(int) throws java.lang.IllegalArgumentException",
        "public int MeteredSheets.grant(int,int) throws java.lang.IllegalArgumentException",
        "public int MeteredSheets.readOf(int) throws java.lang.IllegalArgumentException",
        "public int MeteredSheets.reading(int) throws java.lang.IndexOutOfBoundsException",
        "public int MeteredSheets.readings()",
        "public int MeteredSheets.refresh(int) throws java.lang.IllegalArgumentException",
        "public int MeteredSheets.setGreater(int,int,int,int)"
            + " throws java.lang.IllegalArgumentException,java.lang.IllegalStateException",
        "public int MeteredSheets.setNumber(int,int,int) throws java.lang.IllegalArgumentException",
        "public int MeteredSheets.setPrice(int,int) throws java.lang.IllegalArgumentException",
        "public int MeteredSheets.setSum(int,int,int,int,int)"
            + " throws java.lang.IllegalArgumentException,java.lang.IllegalStateException",
        "public int MeteredSheets.setTimes(int,int,int,int)"
            + " throws java.lang.IllegalArgumentException,java.lang.IllegalStateException",
        "public int MeteredSheets.timesRead(int,int) throws java.lang.IllegalArgumentException",
        "public int MeteredSheets.value(int) throws java.lang.IllegalArgumentException",
        "public int MeteredSheets.valueAnew(int) throws java.lang.IllegalArgumentException",
    };

    public static void main(String[] args) {
        Check check = new Check("the face");
        TreeSet<String> seen = new TreeSet<>();
        for (Constructor<?> each : MeteredSheets.class.getDeclaredConstructors()) {
            addUnlessPrivate(seen, each.getModifiers(), each.toGenericString());
        }
        for (Method each : MeteredSheets.class.getDeclaredMethods()) {
            addUnlessPrivate(seen, each.getModifiers(), each.toGenericString());
        }
        for (Field each : MeteredSheets.class.getDeclaredFields()) {
            addUnlessPrivate(seen, each.getModifiers(), each.toGenericString());
        }
        TreeSet<String> due = new TreeSet<>(java.util.List.of(FACE));
        check.due("the face", String.join("\n", seen), String.join("\n", due));
        check.due("the class is final", Modifier.isFinal(MeteredSheets.class.getModifiers()), true);
        check.end();
    }

    private static void addUnlessPrivate(TreeSet<String> seen, int modifiers, String member) {
        if (!Modifier.isPrivate(modifiers)) {
            seen.add(member);
        }
    }
}
