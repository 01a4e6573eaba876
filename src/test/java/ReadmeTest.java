import java.lang.reflect.InvocationTargetException;
import java.lang.reflect.Method;
import java.nio.file.Files;
import java.nio.file.Path;
import java.util.ArrayList;
import java.util.List;
import java.util.Set;
import java.util.TreeSet;
import java.util.regex.Matcher;
import java.util.regex.Pattern;

/** The calls that README.md shows, made in their order on one object; it must show every call of the face. */
public final class ReadmeTest {
    private static final Coasts t = new Coasts("ReadmeTest");
    private static final Pattern TEXT = Pattern.compile("Coasts\\.(\\w+)\\(x, \"(.*)\"\\); // (\\S+)");
    private static final Pattern CALL = Pattern.compile("x\\.(\\w+)\\((.*)\\); // (\\S+)");
    private static final String NEW = "DuskDebts x = new DuskDebts();";
    private static final DuskDebts x = new DuskDebts();
    private static final Set<String> shown = new TreeSet<>();

    public static void main(String[] args) throws Exception {
        boolean isCode = false;
        for (String line : Files.readAllLines(Path.of("README.md"))) {
            if (line.startsWith("```")) {
                isCode = line.equals("```java");
            } else if (isCode && !line.equals(NEW)) {
                make(line);
            }
        }
        for (Method m : DuskDebts.class.getMethods()) {
            if (m.getDeclaringClass() == DuskDebts.class) {
                t.same("README.md shows " + m.getName(), shown.contains(m.getName()), true);
            }
        }
        t.end();
    }

    private static void make(String line) throws Exception {
        Matcher text = TEXT.matcher(line);
        Matcher call = CALL.matcher(line);
        if (text.matches()) {
            Coasts.feed(x, text.group(2));
            compare(line, text.group(1), List.of(text.group(2).length()), text.group(3));
        } else if (call.matches()) {
            compare(line, call.group(1), numbers(call.group(2)), call.group(3));
        } else {
            t.same("README.md's line " + line, "no call", "a call and its answer");
        }
    }

    private static List<Integer> numbers(String listed) {
        List<Integer> numbers = new ArrayList<>();
        for (String number : listed.isEmpty() ? new String[0] : listed.split(", ")) {
            numbers.add(Integer.decode(number));
        }
        return numbers;
    }

    private static void compare(String line, String name, List<Integer> numbers, String due) throws Exception {
        for (Method m : DuskDebts.class.getMethods()) {
            if (m.getName().equals(name) && m.getParameterCount() == numbers.size()) {
                shown.add(name);
                t.same("README.md's " + line, answer(m, numbers.toArray()), due);
                return;
            }
        }
        t.same("README.md's " + line, "no such call", due);
    }

    private static String answer(Method m, Object[] numbers) throws Exception {
        try {
            return m.invoke(x, numbers).toString();
        } catch (InvocationTargetException e) {
            return e.getCause().getClass().getSimpleName();
        }
    }
}
