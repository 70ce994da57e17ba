import java.lang.reflect.Constructor;
import java.lang.reflect.Field;
import java.lang.reflect.Method;
import java.lang.reflect.Modifier;
import java.util.Arrays;
import java.util.Set;
import java.util.TreeSet;

/** The public face: what the document names, and nothing else that another class could see. */
public final class FaceTest {
    private static final String INDEX = " IndexOutOfBoundsException";
    private static final String ARGUMENT = " IllegalArgumentException";
    private static final String STATE = " IllegalStateException";

    private static final Set<String> DUE = new TreeSet<>(Set.of(
        "NONE:int", "new[]",
        "build[int, int]:int" + ARGUMENT, "balancer[int, int]:int" + INDEX + ARGUMENT,
        "exit[int, int]:int" + INDEX + ARGUMENT, "enter[int, boolean]:int" + ARGUMENT + STATE,
        "move[int]:int" + ARGUMENT + STATE, "deliver[int]:int" + INDEX, "lose[int]:void" + INDEX,
        "twin[int]:void" + INDEX + STATE, "letter[int, int]:int" + INDEX + ARGUMENT, "resend[]:int",
        "station[int, boolean]:void" + ARGUMENT, "token[int, int]:int" + ARGUMENT, "about[int]:int" + ARGUMENT,
        "settle[int]:int" + ARGUMENT));

    public static void main(String[] args) {
        Check check = new Check();
        Set<String> seen = new TreeSet<>();
        for (Field f : CountingNetwork.class.getDeclaredFields()) {
            if (!Modifier.isPrivate(f.getModifiers())) {
                seen.add(f.getName() + ":" + f.getType());
            }
        }
        for (Constructor<?> c : CountingNetwork.class.getDeclaredConstructors()) {
            if (!Modifier.isPrivate(c.getModifiers())) {
                seen.add("new" + Arrays.toString(c.getParameterTypes()));
            }
        }
        for (Method m : CountingNetwork.class.getDeclaredMethods()) {
            if (!Modifier.isPrivate(m.getModifiers())) {
                seen.add(m.getName() + Arrays.toString(m.getParameterTypes()) + ":" + m.getReturnType() + thrownBy(m));
                check.same(m.getName() + " is public", 1, Modifier.isPublic(m.getModifiers()) ? 1 : 0);
            }
        }
        if (!seen.equals(DUE)) {
            check.report("the face", seen.toString(), DUE.toString());
        }
        check.same("the class is final", 1, Modifier.isFinal(CountingNetwork.class.getModifiers()) ? 1 : 0);
        check.same("NONE", -1, CountingNetwork.NONE);
        check.end();
    }

    private static String thrownBy(Method m) {
        StringBuilder thrown = new StringBuilder();
        for (Class<?> e : m.getExceptionTypes()) {
            thrown.append(' ').append(e.getSimpleName());
        }
        return thrown.toString();
    }
}
