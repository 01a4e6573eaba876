import java.lang.reflect.InvocationTargetException;
import java.lang.reflect.Method;
import java.util.ArrayList;
import java.util.HashMap;
import java.util.List;
import java.util.Map;
import java.util.NoSuchElementException;
import java.util.Random;

/** All promises: runs of calls by seeds, each answer compared with the plain second writing in Naive. */
public final class NaiveTest {
    private static final int RUNS = 1500;
    private static final int CALLS = 400;

    private static final Map<String, Method> METHODS = new HashMap<>();
    private static final String[] ASKED = {"fault", "undo", "told", "creditor", "debt", "light", "dusk", "would", "grows", "best",
        "soon", "left", "delay", "next", "matched", "weds", "choices", "sees", "eyes", "chairs", "gets", "owes", "net", "struck",
        "moved", "look", "settle", "now", "bids", "has", "decade", "span", "greatest", "brightest", "image", "restore", "status", "count"};
    private static final int[][] RANGES = {{}, {}, {8}, {5, 3}, {9, 6}, {3, 4}, {200, 3}, {9999, 16, 200, 99}, {9}, {1},
        {}, {60}, {9, 400}, {}, {}, {5}, {5}, {5}, {19}, {19, 1}, {5, 3, 999, 1}, {5, 5}, {5}, {1},
        {}, {2}, {999, 400, 400, 6, 1}, {999, 400, 400, 6}, {200, 3, 20, 2}, {200, 3, 99, 99}, {-1, 60, 3}, {-1, 20, 60, 2}, {}, {3},
        {}, {}, {2}, {3}};

    private static Random random;
    private static DuskDebts x;
    private static Naive naive;
    private static final List<String> told = new ArrayList<>();

    public static void main(String[] args) throws Exception {
        for (Method m : DuskDebts.class.getDeclaredMethods()) {
            if (java.lang.reflect.Modifier.isPublic(m.getModifiers())) {
                METHODS.put(m.getName(), m);
            }
        }
        int first = args.length > 0 ? Integer.parseInt(args[0]) : 0;
        int runs = args.length > 1 ? Integer.parseInt(args[1]) : RUNS;
        for (int seed = first; seed < first + runs; seed++) {
            run(seed);
        }
        System.out.println("NaiveTest: " + runs + " runs agree");
    }

    private static void run(int seed) throws Exception {
        random = new Random(seed);
        x = new DuskDebts();
        naive = new Naive();
        told.clear();
        for (int i = 0; i < CALLS; i++) {
            int dice = random.nextInt(100);
            if (i == 0 || dice < 1) {
                text("coast", spoiled(coastText(), 10));
            } else if (dice < 3) {
                text("law", spoiled(sum(0), 15));
            } else if (dice < 9) {
                text("work", spoiled(workText(), 15));
            } else if (dice < 11) {
                text("book", spoiled(bookText(), 15));
            } else if (dice < 12) {
                int n = random.nextInt(9) == 0 ? argument(600) : random.nextInt(700) - 20;
                compare(new String[] {"coast", "law", "work", "book"}[random.nextInt(4)], n);
            } else {
                ask();
            }
        }
    }

    private static void ask() throws Exception {
        int which = random.nextInt(ASKED.length);
        int[] ranges = RANGES[which];
        int[] a = new int[ranges.length];
        for (int i = 0; i < a.length; i++) {
            a[i] = argument(ranges[i]);
        }
        if (ASKED[which].matches("creditor|sees|gets|net|debt|grows|delay|weds|choices") && random.nextInt(20) > 0) {
            int kind = ASKED[which].matches("creditor|sees|gets|net") ? 0 : ASKED[which].matches("weds|choices") ? 3 : 1;
            a[0] = random.nextInt(Math.max(1, x.told(kind)));
        }
        compare(ASKED[which], a);
    }

    /** Mostly fitting, sometimes just outside, sometimes as far outside as can be; a range of -1 is any number. */
    private static int argument(int most) {
        switch (random.nextInt(80)) {
            case 0:
                return most + 1;
            case 1:
                return -1;
            case 2:
                return Integer.MIN_VALUE + random.nextInt(3);
            case 3:
                return Integer.MAX_VALUE - random.nextInt(3);
            default:
                return most < 0 ? random.nextInt() : random.nextInt(8) == 0 ? most : random.nextInt(most + 1);
        }
    }

    private static void text(String name, String text) throws Exception {
        for (int i = 0; i < text.length(); i += 20) {
            compare("feed", Coasts.word(text, i), Coasts.word(text, i + 4), Coasts.word(text, i + 8), Coasts.word(text, i + 12), Coasts.word(text, i + 16));
        }
        told.add("  that is: " + text);
        compare(name, Math.min(text.length(), x.count(1)));
        compare("fault");
    }

    private static void compare(String name, int... a) throws Exception {
        told.add(name + java.util.Arrays.toString(a));
        String want;
        try {
            want = Long.toString(naive.call(name, a));
        } catch (NoSuchElementException | IllegalArgumentException e) {
            want = e.getClass().getName();
        }
        Object[] boxed = new Object[a.length];
        for (int i = 0; i < a.length; i++) {
            boxed[i] = a[i];
        }
        String got;
        try {
            Object answer = METHODS.get(name).invoke(x, boxed);
            got = answer instanceof Boolean b ? b ? "1" : "0" : answer.toString();
        } catch (InvocationTargetException e) {
            got = e.getCause().getClass().getName();
        }
        if (!got.equals(want)) {
            told.forEach(System.out::println);
            System.out.println("answered " + got + ", due is " + want);
            System.exit(1);
        }
    }

    // ---- texts ----

    private static int pick(int least, int most) {
        return least + random.nextInt(most - least + 1);
    }

    private static String colour() {
        return Naive.COLOURS[random.nextInt(10) < 5 ? 0 : random.nextInt(4)];
    }

    private static String coastText() {
        StringBuilder s = new StringBuilder();
        int creditors = pick(1, 6);
        int debts = pick(0, random.nextBoolean() ? 10 : 4);
        for (int i = 0; i < creditors; i++) {
            s.append("creditor ").append(pick(0, 19)).append(' ').append(pick(0, 20)).append(';');
        }
        int most = random.nextBoolean() ? 12 : 99;
        for (int i = 0; i < debts; i++) {
            s.append("debt").append(pick(0, creditors - 1)).append(colour()).append(pick(1, most)).append(' ')
                .append(pick(0, random.nextBoolean() ? 2 : 16)).append(' ').append(pick(0, random.nextBoolean() ? 6 : 60)).append(';');
        }
        int levels = random.nextBoolean() ? 40 : 4;
        for (int i = pick(0, random.nextBoolean() ? 12 : 4); i > 0; i--) {
            s.append("dusk").append(pick(0, levels)).append(' ').append(pick(0, levels)).append(' ').append(pick(0, levels)).append(' ').append(pick(0, levels)).append(';');
        }
        for (int i = pick(0, 3); i > 0; i--) {
            s.append("ridge ").append(pick(0, 19)).append(' ').append(pick(0, 20)).append(';');
        }
        for (int i = pick(0, 2); i > 0; i--) {
            s.append("lamp ").append(colour()).append(pick(0, 99)).append(';');
        }
        int by = random.nextBoolean() ? 5 : 60;
        for (int i = pick(0, 6); i > 0 && s.length() < 560; i--) {
            s.append("wedding ").append(colour()).append(pick(1, levels)).append(' ').append(pick(0, by)).append(';');
        }
        s.append("fog ").append(pick(0, 16)).append(';');
        while (creditors > 1 && random.nextInt(4) > 0 && s.length() < 580) {
            int c = pick(0, creditors - 1);
            s.append("owes ").append(c).append(' ').append((c + pick(1, creditors - 1)) % creditors).append(' ').append(pick(1, 99)).append(';');
        }
        return s.length() > 600 ? s.substring(0, s.lastIndexOf(";", 599) + 1) : s.toString();
    }

    private static String sum(int open) {
        StringBuilder s = new StringBuilder(product(open));
        while (random.nextInt(3) == 0) {
            s.append(random.nextBoolean() ? " + " : "-").append(product(open));
        }
        return s.length() > 150 ? "parts" : s.toString();
    }

    private static String product(int open) {
        StringBuilder s = new StringBuilder(unit(open));
        while (random.nextInt(3) == 0) {
            s.append(random.nextBoolean() ? "*" : " /").append(unit(open));
        }
        return s.toString();
    }

    private static String unit(int open) {
        int dice = random.nextInt(10);
        if (dice < 3 || open > 6) {
            return Integer.toString(random.nextInt(10) == 0 ? pick(0, 1000) : pick(0, 20));
        }
        if (dice < 8) {
            return new String[] {"parts", "rate", "late", "dusk", "paid", "colour", "cell"}[random.nextInt(7)];
        }
        if (dice < 9) {
            return "(" + sum(open + 1) + ")";
        }
        return (random.nextBoolean() ? "least[" : "most [") + sum(open + 1) + "," + sum(open + 1) + " ]";
    }

    /** Some works go far, so that some runs come to the last dusk. */
    private static String workText() {
        if (random.nextInt(8) == 0) {
            return "again " + pick(8, 20) + "[again 20[dusk;];];";
        }
        String s = steps(0);
        return s.length() > 150 ? "dusk;" : s;
    }

    private static String steps(int open) {
        StringBuilder s = new StringBuilder();
        int lastDebt = Math.max(0, x.told(1) - 1);
        int lastCreditor = Math.max(0, x.told(0) - 1);
        for (int i = random.nextInt(7); i > 0; i--) {
            switch (random.nextInt(7)) {
                case 0, 1 -> s.append("pay ").append(pick(0, lastDebt)).append(' ').append(pick(1, random.nextBoolean() ? 8 : 50));
                case 2 -> s.append("end").append(pick(0, lastDebt));
                case 3 -> s.append("lamp ").append(colour()).append(' ').append(pick(1, 60));
                case 4 -> s.append("hand ").append(pick(0, lastDebt)).append(' ').append(pick(0, lastCreditor));
                case 5 -> s.append("dusk");
                default -> {
                    if (open > 6) {
                        s.append("dusk");
                    } else {
                        s.append("again ").append(random.nextInt(3) == 0 ? pick(0, 20) : pick(0, 3)).append('[').append(steps(open + 1)).append(']');
                    }
                }
            }
            s.append(random.nextBoolean() ? ";" : " ; ");
        }
        return s.toString();
    }

    private static String bookText() {
        StringBuilder s = new StringBuilder();
        int move = random.nextInt(Math.max(1, x.told(2)));
        for (int i = random.nextInt(random.nextBoolean() ? 3 : 12); i > 0; i--) {
            int dusk = pick(0, random.nextBoolean() ? 4 : 60);
            int k = random.nextInt(4);
            int parts = random.nextInt(9) == 0 ? pick(0, 40) : x.dusk(dusk + move, k);
            s.append(dusk).append(Naive.COLOURS[k]).append(parts).append(';');
        }
        return s.length() > 100 ? s.substring(0, s.lastIndexOf(";", 99) + 1) : s.toString();
    }

    private static final String SIGNS = " ;;[](),+-*/0123456789abcdefghijklmnopqrstuvwxyzA#";

    /** Some texts lose, get or change a byte or a stretch. */
    private static String spoiled(String text, int percent) {
        if (random.nextInt(100) >= percent || text.isEmpty()) {
            return text;
        }
        int at = random.nextInt(text.length());
        char sign = random.nextInt(30) == 0 ? (char) random.nextInt(256) : SIGNS.charAt(random.nextInt(SIGNS.length()));
        switch (random.nextInt(5)) {
            case 0:
                return text.substring(0, at);
            case 1:
                return text.substring(0, at) + text.substring(at + 1);
            case 2:
                return text.substring(0, at) + sign + text.substring(at + 1);
            case 3:
                String longer = text + text.substring(at);
                return longer.length() > 600 ? text : longer;
            default:
                return text.length() > 599 ? text : text.substring(0, at) + sign + text.substring(at);
        }
    }
}
