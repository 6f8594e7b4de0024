import java.lang.reflect.Constructor;
import java.lang.reflect.Field;
import java.lang.reflect.Method;
import java.lang.reflect.Modifier;
import java.util.Arrays;
import java.util.Set;
import java.util.TreeSet;

/** The public face is that of the document, and nothing but it can be seen from outside. */
final class FaceTest {
    private static final Set<String> FACE = new TreeSet<>(Arrays.asList(
        "int BAD", "int RANGE", "int UNDEFINED", "int TYPE", "FixedPlane[]",
        "int two[int, int, int, int, int]", "int one[int, int, int]", "int kind[]", "int number[]",
        "int compare[int, int, int, int]", "boolean matrix[int, int, int, int, int, int]",
        "int entry[int]", "int before[int, int, int, int, int, int]", "int invert[]",
        "int move[int, int, boolean]", "int moved[int]"));

    public static void main(String[] args) {
        Due due = new Due("FaceTest");
        due.equal("BAD", FixedPlane.BAD, -1);
        due.equal("RANGE", FixedPlane.RANGE, -2);
        due.equal("UNDEFINED", FixedPlane.UNDEFINED, -3);
        due.equal("TYPE", FixedPlane.TYPE, -4);
        due.equal("public and final", FixedPlane.class.getModifiers(), Modifier.PUBLIC | Modifier.FINAL);
        Set<String> seen = seen();
        for (String member : FACE) {
            due.equal("there is " + member, seen.contains(member), true);
        }
        for (String member : seen) {
            due.equal("the document has " + member, FACE.contains(member), true);
        }
        staticFieldsAreFinal(due);
        due.end();
    }

    /** Every member that is not private. */
    private static Set<String> seen() {
        Set<String> seen = new TreeSet<>();
        for (Field field : FixedPlane.class.getDeclaredFields()) {
            if (!Modifier.isPrivate(field.getModifiers())) {
                seen.add(field.getType() + " " + field.getName());
            }
        }
        for (Constructor<?> made : FixedPlane.class.getDeclaredConstructors()) {
            if (!Modifier.isPrivate(made.getModifiers())) {
                seen.add(made.getName() + Arrays.toString(made.getParameterTypes()));
            }
        }
        for (Method method : FixedPlane.class.getDeclaredMethods()) {
            if (!Modifier.isPrivate(method.getModifiers())) {
                seen.add(method.getReturnType() + " " + method.getName()
                    + Arrays.toString(method.getParameterTypes()));
            }
        }
        return seen;
    }

    private static void staticFieldsAreFinal(Due due) {
        int kept = 0;
        for (Field field : FixedPlane.class.getDeclaredFields()) {
            int modifiers = field.getModifiers();
            if (Modifier.isStatic(modifiers)) {
                due.equal(field.getName() + " is final", Modifier.isFinal(modifiers), true);
            } else {
                kept++;
            }
        }
        due.equal("at most twenty fields", kept <= 20, true);
    }
}
