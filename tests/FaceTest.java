import java.lang.reflect.Constructor;
import java.lang.reflect.Field;
import java.lang.reflect.Method;
import java.lang.reflect.Modifier;
import java.util.Set;
import java.util.TreeSet;

/** The public face: what the document names, and nothing else that another class could see. */
public final class FaceTest {
    private static final Set<String> DUE = new TreeSet<>(Set.of(
        "NONE:int", "new[]",
        "build[int, int]:int", "balancer[int, int]:int", "exit[int, int]:int", "enter[int, boolean]:int",
        "move[int]:int", "deliver[int]:int", "lose[int]:void", "twin[int]:void", "letter[int, int]:int",
        "resend[]:int", "station[int, boolean]:void", "token[int, int]:int", "about[int]:int", "settle[int]:int"));

    public static void main(String[] args) {
        Check check = new Check();
        Set<String> seen = new TreeSet<>();
        for (Field f : CountingNetwork.class.getDeclaredFields()) {
            if (!Modifier.isPrivate(f.getModifiers())) {
                seen.add(f.getName() + ":" + f.getType());
            }
        }
        for (Constructor<?> c : CountingNetwork.class.getDeclaredConstructors()) {
            if (!Modifier.isPrivate(c.getModifiers())) {
                seen.add("new" + java.util.Arrays.toString(c.getParameterTypes()));
            }
        }
        for (Method m : CountingNetwork.class.getDeclaredMethods()) {
            if (!Modifier.isPrivate(m.getModifiers())) {
                seen.add(m.getName() + java.util.Arrays.toString(m.getParameterTypes()) + ":" + m.getReturnType());
                check.same(m.getName() + " is public", 1, Modifier.isPublic(m.getModifiers()) ? 1 : 0);
            }
        }
        if (!seen.equals(DUE)) {
            check.report("the face", seen.toString(), DUE.toString());
        }
        check.same("the class is final", 1, Modifier.isFinal(CountingNetwork.class.getModifiers()) ? 1 : 0);
        check.same("NONE", -1, CountingNetwork.NONE);
        check.end();
    }
}
