import java.lang.reflect.Constructor;
import java.lang.reflect.Field;
import java.lang.reflect.Method;
import java.lang.reflect.Modifier;
import java.util.Set;
import java.util.TreeSet;

/** The public face: the members of the document and no other that is not private. */
public final class FaceTest {
    private static final Set<String> FACE = Set.of(
        "public BefungeTrace()",
        "public static final int BefungeTrace.BAD_ARG",
        "public static final int BefungeTrace.NO_RUN",
        "public static final int BefungeTrace.ENDED",
        "public static final int BefungeTrace.TIRED",
        "public static final int BefungeTrace.FULL_PILE",
        "public static final int BefungeTrace.FULL_OUTPUT",
        "public int BefungeTrace.put(int,int,int)",
        "public int BefungeTrace.putThree(int,int,int)",
        "public int BefungeTrace.get(int,int)",
        "public void BefungeTrace.clear()",
        "public int BefungeTrace.input(int,int)",
        "public int BefungeTrace.run()",
        "public int BefungeTrace.ending()",
        "public int BefungeTrace.steps()",
        "public int BefungeTrace.height()",
        "public int BefungeTrace.pile(int)",
        "public int BefungeTrace.outputs()",
        "public int BefungeTrace.output(int)",
        "public int BefungeTrace.where()",
        "public int BefungeTrace.digest()");

    public static void main(String[] args) {
        Check check = new Check();
        constantsHaveTheirValues(check);
        membersAreThoseOfTheDocument(check);
        int form = Modifier.PUBLIC | Modifier.FINAL;
        check.due("the modifiers of the class", BefungeTrace.class.getModifiers(), form);
        check.finish();
    }

    private static void constantsHaveTheirValues(Check check) {
        check.due("BAD_ARG", BefungeTrace.BAD_ARG, -1);
        check.due("NO_RUN", BefungeTrace.NO_RUN, 0);
        check.due("ENDED", BefungeTrace.ENDED, 1);
        check.due("TIRED", BefungeTrace.TIRED, 2);
        check.due("FULL_PILE", BefungeTrace.FULL_PILE, 3);
        check.due("FULL_OUTPUT", BefungeTrace.FULL_OUTPUT, 4);
    }

    private static void membersAreThoseOfTheDocument(Check check) {
        Set<String> found = new TreeSet<>();
        for (Constructor<?> made : BefungeTrace.class.getDeclaredConstructors()) {
            addUnlessPrivate(found, made.getModifiers(), made.toString());
        }
        for (Field field : BefungeTrace.class.getDeclaredFields()) {
            addUnlessPrivate(found, field.getModifiers(), field.toString());
        }
        for (Method method : BefungeTrace.class.getDeclaredMethods()) {
            addUnlessPrivate(found, method.getModifiers(), method.toString());
        }
        for (String member : found) {
            check.due("'" + member + "' in the document", FACE.contains(member) ? 1 : 0, 1);
        }
        for (String member : FACE) {
            check.due("'" + member + "' in the class", found.contains(member) ? 1 : 0, 1);
        }
    }

    private static void addUnlessPrivate(Set<String> found, int modifiers, String member) {
        if (!Modifier.isPrivate(modifiers)) {
            found.add(member);
        }
    }
}
