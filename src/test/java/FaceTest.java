import java.lang.reflect.Constructor;
import java.lang.reflect.Field;
import java.lang.reflect.Method;
import java.lang.reflect.Modifier;
import java.util.Set;
import java.util.TreeSet;

/** The public face: the constants, the constructor and the methods of the document, these and no others. */
public final class FaceTest {
    private static final Set<String> METHODS = new TreeSet<>(Set.of(
        "int board(int, int, int)", "int set(int, int, int)", "int lay(int)", "int pass()", "int why(int)",
        "int undo()", "int at(int)", "int group(int, int)", "int breath(int, int)", "int region(int, int, int)",
        "int standing(int)", "int chase(int, int)", "int fight(int, int)", "int tries()", "int first()",
        "int points(int, int)", "int count(int)", "int act(int)", "long digest()"));
    private static final Set<String> CONSTANTS = new TreeSet<>(Set.of("NONE", "BAD", "NO", "FULL", "SPENT"));
    private static final Checks CHECKS = new Checks("FaceTest");

    public static void main(String[] args) {
        constants();
        classItself();
        methods();
        fields();
        insides();
        CHECKS.end();
    }

    private static void holds(String what, boolean is) {
        CHECKS.due(what, is ? 1 : 0, 1);
    }

    private static void constants() {
        CHECKS.due("NONE", EyeBoard.NONE, -1);
        CHECKS.due("BAD", EyeBoard.BAD, -2);
        CHECKS.due("NO", EyeBoard.NO, -3);
        CHECKS.due("FULL", EyeBoard.FULL, -4);
        CHECKS.due("SPENT", EyeBoard.SPENT, -5);
    }

    private static void classItself() {
        int modifiers = EyeBoard.class.getModifiers();
        holds("public and final", Modifier.isPublic(modifiers) && Modifier.isFinal(modifiers));
        int open = 0;
        for (Constructor<?> made : EyeBoard.class.getDeclaredConstructors()) {
            if (!Modifier.isPrivate(made.getModifiers())) {
                open++;
                holds("public, without parameters",
                    Modifier.isPublic(made.getModifiers()) && made.getParameterCount() == 0);
            }
        }
        CHECKS.due("constructors that are not private", open, 1);
    }

    private static String told(Method method) {
        StringBuilder text = new StringBuilder();
        text.append(method.getReturnType()).append(' ').append(method.getName()).append('(');
        for (int i = 0; i < method.getParameterCount(); i++) {
            text.append(i == 0 ? "" : ", ").append(method.getParameterTypes()[i]);
        }
        return text.append(')').toString();
    }

    private static void methods() {
        Set<String> open = new TreeSet<>();
        for (Method method : EyeBoard.class.getDeclaredMethods()) {
            if (!Modifier.isPrivate(method.getModifiers())) {
                open.add(told(method));
                holds(method.getName() + " is public and of the object",
                    Modifier.isPublic(method.getModifiers()) && !Modifier.isStatic(method.getModifiers()));
            }
        }
        holds("the methods " + open, open.equals(METHODS));
    }

    private static void fields() {
        Set<String> open = new TreeSet<>();
        for (Field field : EyeBoard.class.getDeclaredFields()) {
            if (!Modifier.isPrivate(field.getModifiers())) {
                open.add(field.getName());
            }
            holds(field.getName() + " is final if it is static",
                !Modifier.isStatic(field.getModifiers()) || Modifier.isFinal(field.getModifiers()));
        }
        holds("the constants " + open, open.equals(CONSTANTS));
    }

    private static void insides() {
        for (Class<?> inside : EyeBoard.class.getDeclaredClasses()) {
            int modifiers = inside.getModifiers();
            holds(inside.getName() + " is static and not open",
                Modifier.isStatic(modifiers) && !Modifier.isPublic(modifiers) && !Modifier.isProtected(modifiers));
            noPrivateNamesakes(inside);
        }
        noPrivateNamesakes(EyeBoard.class);
    }

    private static void noPrivateNamesakes(Class<?> holder) {
        for (Method method : holder.getDeclaredMethods()) {
            boolean named = METHODS.stream().anyMatch(face -> face.contains(" " + method.getName() + "("));
            holds(holder.getName() + ": " + method.getName() + " is no private one named like one of the face",
                !named || !Modifier.isPrivate(method.getModifiers()));
        }
    }
}
