import java.lang.reflect.Constructor;
import java.lang.reflect.Field;
import java.lang.reflect.Method;
import java.lang.reflect.Modifier;
import java.util.ArrayList;
import java.util.Arrays;
import java.util.Collections;
import java.util.List;

/** The public face, word for word, and nothing beside it. */
public final class FaceTest {
    private static final String[] FACE = {"type(long, int)", "cam()", "cut(int, int, int)", "told(int, int)",
        "figure(int, int, int, int)", "set(int, int, int)", "wish(int)", "line(int)", "way(int)", "count(int)",
        "height(int, int)", "ups(int)", "turn(int)", "strikes(int, int)", "wear(int)", "missed(int)", "fewest()",
        "share(int, int)", "pegs(int, int)", "beats(int, int)", "when(int)", "at(int)", "hand(int, int)",
        "whose(int)", "image()", "restore()", "worn(int, int, int, int)", "film(int, int, int, int)",
        "sheet(int, int, int)", "drop(int)", "item(int, int, int, long)", "copy(int, int, int, int, int)"};
    private static final String[] CONSTANTS = {"BAD=-1", "NOT=-2", "FULL=-3", "NONE=-4", "NULL=-11", "CAST=-12",
        "INDEX=-13", "SIZE=-14"};

    public static void main(String[] args) throws IllegalAccessException {
        methods();
        constants();
        classItself();
        Due.end("FaceTest");
    }

    private static void same(String what, List<String> got, String[] want) {
        List<String> due = new ArrayList<>(Arrays.asList(want));
        Collections.sort(due);
        Collections.sort(got);
        Due.is(what + " " + got + " are to be " + due, got.equals(due) ? 1 : 0, 1);
    }

    private static void methods() {
        List<String> names = new ArrayList<>();
        List<String> open = new ArrayList<>();
        for (Method m : ShaftPlay.class.getDeclaredMethods()) {
            String types = Arrays.toString(m.getParameterTypes());
            String call = m.getName() + "(" + types.substring(1, types.length() - 1) + ")";
            if (!Modifier.isPrivate(m.getModifiers())) {
                open.add(call);
                Due.is(call + " is public, answers an int, belongs to an object", Modifier.isPublic(m.getModifiers())
                    && m.getReturnType() == int.class && !Modifier.isStatic(m.getModifiers()) ? 1 : 0, 1);
                names.add(m.getName());
            }
        }
        same("calls", open, FACE);
        for (Method m : ShaftPlay.class.getDeclaredMethods()) {
            Due.is(m.getName() + " is private and bears a public name",
                Modifier.isPrivate(m.getModifiers()) && names.contains(m.getName()) ? 1 : 0, 0);
        }
    }

    private static void constants() throws IllegalAccessException {
        List<String> open = new ArrayList<>();
        for (Field f : ShaftPlay.class.getDeclaredFields()) {
            if (Modifier.isStatic(f.getModifiers())) {
                Due.is(f.getName() + " is final", Modifier.isFinal(f.getModifiers()) ? 1 : 0, 1);
            }
            if (!Modifier.isPrivate(f.getModifiers())) {
                open.add(f.getName() + "=" + f.getInt(null));
            }
        }
        same("constants", open, CONSTANTS);
    }

    private static void classItself() {
        int modifiers = ShaftPlay.class.getModifiers();
        Due.is("public and final", Modifier.isPublic(modifiers) && Modifier.isFinal(modifiers) ? 1 : 0, 1);
        Constructor<?>[] made = ShaftPlay.class.getDeclaredConstructors();
        Due.is("one constructor", made.length, 1);
        Due.is("without arguments, public", made[0].getParameterCount() == 0
            && Modifier.isPublic(made[0].getModifiers()) ? 1 : 0, 1);
        for (Class<?> inside : ShaftPlay.class.getDeclaredClasses()) {
            int m = inside.getModifiers();
            Due.is(inside.getName() + " is static and not open", Modifier.isStatic(m) && !Modifier.isPublic(m)
                && !Modifier.isProtected(m) ? 1 : 0, 1);
        }
    }
}
