import java.io.IOException;
import java.lang.reflect.Method;
import java.lang.reflect.Modifier;
import java.nio.file.Files;
import java.nio.file.Path;
import java.util.ArrayList;
import java.util.List;
import java.util.regex.Matcher;
import java.util.regex.Pattern;

/** README.md says what each call is for and what it may throw, and its example answers what it says. */
public final class ReadmeTest {
    private static final Pattern EXCEPTION = Pattern.compile("`(\\w+Exception)`");

    private static final Check check = new Check();

    public static void main(String[] args) throws IOException {
        List<String> readme = Files.readAllLines(Path.of("README.md"));
        for (Method m : CountingNetwork.class.getDeclaredMethods()) {
            if (Modifier.isPublic(m.getModifiers())) {
                rowOf(m, readme);
            }
        }
        example(readme);
        says(readme, "`new CountingNetwork()`");
        says(readme, ".ci/run");
        check.end();
    }

    private static void rowOf(Method m, List<String> readme) {
        for (String line : readme) {
            if (line.startsWith("| `" + m.getName() + "(")) {
                String[] cells = line.split("\\|");
                check.same(m.getName() + "'s row, parameters", m.getParameterCount(), parametersIn(cells[1]));
                String want = namesOf(m.getExceptionTypes()).toString();
                String got = exceptionsIn(cells[3]).toString();
                if (!got.equals(want)) {
                    check.report(m.getName() + "'s row, exceptions", got, want);
                }
                return;
            }
        }
        check.report("the row of " + m.getName(), "nothing", "a row");
    }

    private static int parametersIn(String cell) {
        String inside = cell.substring(cell.indexOf('(') + 1, cell.indexOf(')'));
        return inside.isEmpty() ? 0 : inside.split(",").length;
    }

    private static List<String> namesOf(Class<?>[] types) {
        List<String> names = new ArrayList<>();
        for (Class<?> type : types) {
            names.add(type.getSimpleName());
        }
        return names;
    }

    private static List<String> exceptionsIn(String cell) {
        List<String> names = new ArrayList<>();
        Matcher matcher = EXCEPTION.matcher(cell);
        while (matcher.find()) {
            names.add(matcher.group(1));
        }
        return names;
    }

    private static void example(List<String> readme) {
        CountingNetwork network = new CountingNetwork();
        line(readme, "network.build(4, 3);", network.build(4, 3));
        line(readme, "network.enter(0, true);", network.enter(0, true));
        line(readme, "network.move(0);", network.move(0));
        line(readme, "network.deliver(0);", network.deliver(0));
        line(readme, "network.settle(100);", network.settle(100));
        line(readme, "network.token(0, 4);", network.token(0, 4));
    }

    private static void line(List<String> readme, String call, int answer) {
        for (String line : readme) {
            if (line.startsWith(call)) {
                if (!line.contains(" // " + answer + ": ")) {
                    check.report("README.md, " + call, line, Integer.toString(answer));
                }
                return;
            }
        }
        check.report("README.md, " + call, "nothing", "a line");
    }

    private static void says(List<String> readme, String words) {
        for (String line : readme) {
            if (line.contains(words)) {
                return;
            }
        }
        check.report("README.md", "nothing of " + words, "a line with it");
    }
}
