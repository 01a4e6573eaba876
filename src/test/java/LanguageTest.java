import java.lang.reflect.Field;
import java.lang.reflect.Method;
import java.lang.reflect.Modifier;
import java.nio.file.Files;
import java.nio.file.Path;
import java.util.ArrayList;
import java.util.List;
import java.util.Set;
import java.util.TreeSet;
import java.util.regex.Matcher;
import java.util.regex.Pattern;

/** The rules of LANGUAGE.md that a plain look at the source and the class can check, and the face of the document. */
public final class LanguageTest {
    private static final String FACE = "feed5 coast1 law1 work1 book1 fault0 undo0 told1 creditor2 debt2 light2 dusk2 would4 grows1 best1 "
        + "soon0 left1 delay2 next0 matched0 weds1 choices1 sees1 eyes1 chairs2 gets4 owes2 net1 struck1 moved0 look1 settle5 now4 "
        + "bids4 has4 decade3 span4 greatest0 brightest1 image0 restore0 status1 count1";
    private static final List<String> wrong = new ArrayList<>();

    public static void main(String[] args) throws Exception {
        String source = Files.readString(Path.of("src/main/java/DuskDebts.java"));
        face();
        classes();
        words(source);
        methods(source);
        wrong.forEach(System.out::println);
        System.out.println("LanguageTest: " + wrong.size() + " wrong");
        System.exit(wrong.isEmpty() ? 0 : 1);
    }

    private static void face() {
        Set<String> due = new TreeSet<>(List.of(FACE.split(" ")));
        Set<String> got = new TreeSet<>();
        for (Method m : DuskDebts.class.getDeclaredMethods()) {
            if (!Modifier.isPrivate(m.getModifiers())) {
                got.add(m.getName() + m.getParameterCount());
                check(Modifier.isPublic(m.getModifiers()) && !Modifier.isStatic(m.getModifiers()), "method " + m);
            }
        }
        check(got.equals(due), "the face is " + got);
        for (Field f : DuskDebts.class.getDeclaredFields()) {
            check(Modifier.isPrivate(f.getModifiers()) || f.getName().equals("NONE"), "field " + f);
        }
        check(Modifier.isFinal(DuskDebts.class.getModifiers()), "the class is final");
    }

    private static void classes() {
        Set<String> names = new TreeSet<>();
        for (String entry : FACE.split(" ")) {
            names.add(entry.replaceAll("[0-9]", ""));
        }
        List<Class<?>> all = new ArrayList<>(List.of(DuskDebts.class.getDeclaredClasses()));
        check(all.size() <= 12, all.size() + " classes inside");
        all.add(DuskDebts.class);
        for (Class<?> c : all) {
            int fields = 0;
            for (Field f : c.getDeclaredFields()) {
                boolean isStatic = Modifier.isStatic(f.getModifiers());
                fields += isStatic ? 0 : 1;
                check(!isStatic || Modifier.isFinal(f.getModifiers()), "static field " + f);
            }
            check(fields <= 20, c + " has " + fields + " fields");
            for (Method m : c.getDeclaredMethods()) {
                check(c == DuskDebts.class && Modifier.isPublic(m.getModifiers()) || !names.contains(m.getName()), "a method bears a name of the face: " + m);
                check(m.getParameterCount() <= 7, "too many parameters: " + m);
            }
        }
    }

    private static void words(String source) {
        for (String bad : List.of("->", "::", "synchronized", "assert ", "finally", "catch", "try ", "Exact", "getMessage", "System.out", "import static",
            "MAX_VALUE", "MIN_VALUE", "hashCode", "toString", "double", "float", "@")) {
            check(!source.contains(bad), "the source has " + bad);
        }
        Matcher library = Pattern.compile("\\b(Math|Integer|Long|Arrays|System|String|List)\\.(\\w+)").matcher(source);
        Set<String> allowed = Set.of("Math.min", "Math.max", "Integer.bitCount", "Long.bitCount", "Arrays.fill", "System.arraycopy");
        while (library.find()) {
            check(allowed.contains(library.group()), "the library's " + library.group());
        }
        Matcher thrown = Pattern.compile("throw new (\\w+)\\(").matcher(source);
        while (thrown.find()) {
            check(Set.of("IllegalArgumentException", "NoSuchElementException").contains(thrown.group(1)), "thrown " + thrown.group(1));
        }
        Matcher imported = Pattern.compile("import ([\\w.]+);").matcher(source);
        while (imported.find()) {
            check(Set.of("java.util.Arrays", "java.util.NoSuchElementException").contains(imported.group(1)), "imported " + imported.group(1));
        }
        check(source.chars().allMatch(c -> c == '\n' || c >= 32 && c < 127), "signs are of 7 bits, and no tabs");
    }

    private static void methods(String source) {
        String[] lines = source.split("\n");
        int start = -1;
        for (int i = 0; i < lines.length; i++) {
            if (lines[i].matches(" {4}( {4})?[a-z].*\\).* \\{") && !lines[i].matches(" +(for|if|while|switch).*")) {
                start = i;
            }
            if (start >= 0 && lines[i].matches(" {4}( {4})?\\}")) {
                check(i - start < 60, "long method: " + lines[start]);
                start = -1;
            }
            check(lines[i].length() <= 130, "long line " + (i + 1));
        }
    }

    private static void check(boolean holds, String what) {
        if (!holds) {
            wrong.add("LanguageTest: " + what);
        }
    }
}
