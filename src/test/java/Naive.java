import java.util.ArrayList;
import java.util.HashMap;
import java.util.List;
import java.util.Map;
import java.util.NoSuchElementException;

/** The document once more, written as slowly and plainly as can be, to compare with. Calls are made by name. */
final class Naive {
    static final class Fault extends RuntimeException {
        final int kind;
        final int place;

        Fault(int kind, int place) {
            this.kind = kind;
            this.place = place;
        }
    }

    static final String[] COLOURS = {"gold", "rose", "green", "grey"};

    /** One sign, word or number, and where it begins. */
    record Token(String text, int place) {
    }

    static final class Tokens {
        final List<Token> all = new ArrayList<>();
        int next = 0;

        Tokens(String text) {
            java.util.regex.Matcher m = java.util.regex.Pattern.compile("[0-9]+|[a-z]+|[^ ]", java.util.regex.Pattern.DOTALL).matcher(text);
            while (m.find()) {
                all.add(new Token(m.group(), m.start()));
            }
            all.add(new Token("", text.length()));
        }

        Token peek() {
            return all.get(next);
        }

        boolean ended() {
            return peek().text.isEmpty();
        }

        Token take() {
            Token token = peek();
            if (next < all.size() - 1) {
                next++;
            }
            return token;
        }

        void expect(String text) {
            if (!peek().text.equals(text)) {
                throw new Fault(1, peek().place);
            }
            take();
        }

        int number(int least, int most) {
            Token token = peek();
            if (!token.text.matches("[0-9]+")) {
                throw new Fault(1, token.place);
            }
            java.math.BigInteger value = new java.math.BigInteger(token.text);
            if (value.compareTo(java.math.BigInteger.valueOf(least)) < 0 || value.compareTo(java.math.BigInteger.valueOf(most)) > 0) {
                throw new Fault(2, token.place);
            }
            take();
            return value.intValue();
        }

        int colour() {
            for (int k = 0; k < 4; k++) {
                if (peek().text.equals(COLOURS[k])) {
                    take();
                    return k;
                }
            }
            throw new Fault(1, peek().place);
        }
    }

    static final class Told {
        final List<int[]> creditors = new ArrayList<>();
        final List<int[]> debts = new ArrayList<>();
        final List<int[]> dusks = new ArrayList<>();
        final List<int[]> weddings = new ArrayList<>();
        final int[] ridge = new int[20];
        final int[] lamp = new int[4];
        final int[][] owes = new int[6][6];
        int fog = 0;

        int light(int dusk, int colour) {
            return dusks.isEmpty() ? 0 : dusks.get(dusk % dusks.size())[colour];
        }
    }

    static Told readCoast(String text) {
        Told told = new Told();
        Tokens in = new Tokens(text);
        int clauses = 0;
        while (!in.ended()) {
            Token word = in.take();
            Map<String, Integer> full = new HashMap<>();
            full.put("creditor", told.creditors.size() - 6);
            full.put("debt", told.debts.size() - 10);
            full.put("dusk", told.dusks.size() - 12);
            full.put("wedding", told.weddings.size() - 6);
            full.put("ridge", -1);
            full.put("lamp", -1);
            full.put("fog", -1);
            full.put("owes", -1);
            if (!full.containsKey(word.text)) {
                throw new Fault(1, word.place);
            }
            if (clauses == 60 || full.get(word.text) >= 0) {
                throw new Fault(3, word.place);
            }
            clause(told, in, word.text);
            in.expect(";");
            clauses++;
        }
        return told;
    }

    static void clause(Told told, Tokens in, String word) {
        int last = told.creditors.size() - 1;
        switch (word) {
            case "creditor" -> told.creditors.add(new int[] {in.number(0, 19), in.number(0, 20)});
            case "debt" -> told.debts.add(new int[] {in.number(0, last), in.colour(), in.number(1, 99), in.number(0, 16), in.number(0, 60)});
            case "dusk" -> told.dusks.add(new int[] {in.number(0, 40), in.number(0, 40), in.number(0, 40), in.number(0, 40)});
            case "wedding" -> told.weddings.add(new int[] {in.colour(), in.number(1, 40), in.number(0, 60)});
            case "ridge" -> {
                int x = in.number(0, 19);
                told.ridge[x] = in.number(0, 20);
            }
            case "lamp" -> {
                int k = in.colour();
                told.lamp[k] = in.number(0, 99);
            }
            case "fog" -> told.fog = in.number(0, 16);
            default -> {
                int c = in.number(0, last);
                int place = in.peek().place;
                int d = in.number(0, last);
                if (c == d) {
                    throw new Fault(2, place);
                }
                told.owes[c][d] = Math.min(999, told.owes[c][d] + in.number(1, 99));
            }
        }
    }

    interface Expression {
        int value(Map<String, Integer> known);
    }

    static Expression readLaw(String text) {
        Tokens in = new Tokens(text);
        Expression e = sum(in, 0);
        if (!in.ended()) {
            throw new Fault(1, in.peek().place);
        }
        return e;
    }

    static Expression sum(Tokens in, int open) {
        Expression left = product(in, open);
        while (in.peek().text.equals("+") || in.peek().text.equals("-")) {
            boolean plus = in.take().text.equals("+");
            Expression a = left;
            Expression b = product(in, open);
            left = known -> plus ? a.value(known) + b.value(known) : a.value(known) - b.value(known);
        }
        return left;
    }

    static Expression product(Tokens in, int open) {
        Expression left = unit(in, open);
        while (in.peek().text.equals("*") || in.peek().text.equals("/")) {
            boolean times = in.take().text.equals("*");
            Expression a = left;
            Expression b = unit(in, open);
            left = known -> {
                int x = a.value(known);
                int y = b.value(known);
                return times ? x * y : y == 0 ? 0 : x / y;
            };
        }
        return left;
    }

    static Expression unit(Tokens in, int open) {
        Token token = in.peek();
        if (token.text.matches("[0-9]+")) {
            int n = in.number(0, 999);
            return known -> n;
        }
        boolean opens = List.of("(", "least", "most").contains(token.text);
        if (opens && open == 6) {
            throw new Fault(3, token.place);
        }
        in.take();
        if (token.text.equals("(")) {
            Expression e = sum(in, open + 1);
            in.expect(")");
            return e;
        }
        if (opens) {
            in.expect("[");
            Expression a = sum(in, open + 1);
            in.expect(",");
            Expression b = sum(in, open + 1);
            in.expect("]");
            boolean least = token.text.equals("least");
            return known -> least ? Math.min(a.value(known), b.value(known)) : Math.max(a.value(known), b.value(known));
        }
        if (!List.of("parts", "rate", "late", "dusk", "paid", "colour", "cell").contains(token.text)) {
            throw new Fault(1, token.place);
        }
        return known -> known.get(token.text);
    }

    /** A step of work: what, two numbers, and what is repeated. */
    record Step(String word, int a, int b, List<Step> inner) {
    }

    List<Step> readWork(String text) {
        Tokens in = new Tokens(text);
        List<Step> steps = new ArrayList<>();
        while (!in.ended()) {
            steps.add(step(in, 0));
            in.expect(";");
        }
        return steps;
    }

    Step step(Tokens in, int open) {
        Token word = in.take();
        int lastDebt = told.debts.size() - 1;
        switch (word.text) {
            case "pay":
                return new Step("pay", in.number(0, lastDebt), in.number(1, 99), null);
            case "end":
                return new Step("end", in.number(0, lastDebt), 0, null);
            case "lamp":
                return new Step("lamp", in.colour(), in.number(1, 99), null);
            case "hand":
                return new Step("hand", in.number(0, lastDebt), in.number(0, told.creditors.size() - 1), null);
            case "dusk":
                return new Step("dusk", 0, 0, null);
            case "again":
                if (open == 6) {
                    throw new Fault(3, word.place);
                }
                int n = in.number(0, 20);
                in.expect("[");
                List<Step> inner = new ArrayList<>();
                while (!in.peek().text.equals("]")) {
                    inner.add(step(in, open + 1));
                    in.expect(";");
                }
                in.take();
                return new Step("again", n, 0, inner);
            default:
                throw new Fault(1, word.place);
        }
    }

    static List<int[]> readBook(String text) {
        Tokens in = new Tokens(text);
        List<int[]> lines = new ArrayList<>();
        while (!in.ended()) {
            int place = in.peek().place;
            int e = in.number(0, 60);
            if (lines.size() == 10) {
                throw new Fault(3, place);
            }
            lines.add(new int[] {e, in.colour(), in.number(0, 40)});
            in.expect(";");
        }
        return lines;
    }

    /** All that work changes. */
    static final class State {
        int dusk = 0;
        int[] owed = new int[10];
        int[] to = new int[10];
        int[] paid = new int[10];
        int[] paidNow = new int[10];
        boolean[] defaulted = new boolean[10];
        int[] left = new int[4];
        int[] lent = new int[4];

        State copy() {
            State s = new State();
            s.dusk = dusk;
            s.owed = owed.clone();
            s.to = to.clone();
            s.paid = paid.clone();
            s.paidNow = paidNow.clone();
            s.defaulted = defaulted.clone();
            s.left = left.clone();
            s.lent = lent.clone();
            return s;
        }

        int total() {
            int sum = 0;
            for (int o : owed) {
                sum += o;
            }
            return sum;
        }

        int defaults() {
            int many = 0;
            for (boolean b : defaulted) {
                many += b ? 1 : 0;
            }
            return many;
        }
    }

    record Image(State state, List<State> works) {
    }

    StringBuilder tape = new StringBuilder();
    Told told = new Told();
    Expression law = null;
    List<int[]> book = new ArrayList<>();
    State state = new State();
    List<State> works = new ArrayList<>();
    List<Image> images = new ArrayList<>();
    int faultPlace = -1;
    int refused = 0;
    int noSuch = 0;
    int illegal = 0;
    int begun;
    int done;

    long call(String name, int... a) {
        try {
            return answer(name, a);
        } catch (NoSuchElementException e) {
            noSuch++;
            throw e;
        } catch (IllegalArgumentException e) {
            illegal++;
            throw e;
        }
    }

    private static void fits(boolean b) {
        if (!b) {
            throw new IllegalArgumentException();
        }
    }

    private static void fits(int v, int least, int most) {
        fits(v >= least && v <= most);
    }

    private static void such(int v, List<int[]> of) {
        if (v < 0 || v >= of.size()) {
            throw new NoSuchElementException();
        }
    }

    private String text(int n, int most) {
        fits(n, 0, Math.min(most, tape.length()));
        String text = tape.substring(0, n);
        tape.setLength(0);
        faultPlace = -1;
        return text;
    }

    private long answer(String name, int[] a) {
        try {
            switch (name) {
                case "feed":
                    return feed(a);
                case "coast":
                    return coast(text(a[0], 600));
                case "law":
                    law = readLaw(text(a[0], 150));
                    return 1;
                case "work":
                    return work(text(a[0], 150));
                case "book":
                    book = readBook(text(a[0], 100));
                    return book.size();
                default:
                    return asked(name, a);
            }
        } catch (Fault f) {
            faultPlace = f.place;
            return f.kind - 10;
        }
    }

    private int feed(int[] a) {
        if (tape.length() > 580) {
            return -1;
        }
        for (int v : a) {
            for (int i = 3; i >= 0; i--) {
                tape.append((char) (v >> 8 * i & 255));
            }
        }
        return tape.length();
    }

    private int coast(String text) {
        told = readCoast(text);
        law = null;
        book = new ArrayList<>();
        images.clear();
        works.clear();
        refused = 0;
        state = new State();
        for (int d = 0; d < told.debts.size(); d++) {
            state.owed[d] = told.debts.get(d)[2];
            state.to[d] = told.debts.get(d)[0];
        }
        shine(state);
        return told.debts.size();
    }

    private void shine(State s) {
        for (int k = 0; k < 4; k++) {
            s.left[k] = told.light(s.dusk, k);
        }
    }

    private int work(String text) {
        if (works.size() == 16) {
            return -20;
        }
        List<Step> steps = readWork(text);
        works.add(state.copy());
        begun = 0;
        done = 0;
        refused = 0;
        doAll(steps);
        return done;
    }

    private void doAll(List<Step> steps) {
        for (Step step : steps) {
            if (begun == 200) {
                return;
            }
            begun++;
            if (step.word.equals("again")) {
                for (int i = 0; i < step.a; i++) {
                    doAll(step.inner);
                }
            } else if (tryStep(step)) {
                done++;
            } else {
                refused++;
            }
        }
    }

    private boolean tryStep(Step step) {
        State s = state;
        switch (step.word) {
            case "pay":
                return pay(s, step.a, step.b);
            case "end":
                return s.owed[step.a] > 0 && pay(s, step.a, s.owed[step.a]);
            case "lamp":
                if (s.lent[step.a] + step.b > told.lamp[step.a]) {
                    return false;
                }
                s.lent[step.a] += step.b;
                s.left[step.a] += step.b;
                return true;
            case "hand":
                if (s.to[step.a] == step.b || s.owed[step.a] == 0) {
                    return false;
                }
                s.to[step.a] = step.b;
                return true;
            default:
                return dusk(s);
        }
    }

    private boolean pay(State s, int d, int n) {
        int k = told.debts.get(d)[1];
        if (s.left[k] < n || s.owed[d] < n) {
            return false;
        }
        s.left[k] -= n;
        s.owed[d] -= n;
        s.paid[d] += n;
        s.paidNow[d] += n;
        return true;
    }

    private int grow(int parts, int rate, int late, int dusk, int paid, int colour, int cell) {
        int v = parts * rate / 16;
        if (law != null) {
            v = law.value(Map.of("parts", parts, "rate", rate, "late", late, "dusk", dusk, "paid", paid, "colour", colour, "cell", cell));
        }
        return v < 0 ? 0 : v > 99 ? 99 : v;
    }

    private int grow(State s, int d) {
        int[] debt = told.debts.get(d);
        if (s.owed[d] == 0) {
            return 0;
        }
        return grow(s.owed[d], debt[3], s.dusk > debt[4] ? s.dusk - debt[4] : 0, s.dusk, s.paidNow[d], debt[1], told.creditors.get(s.to[d])[0]);
    }

    private boolean dusk(State s) {
        if (s.dusk == 200) {
            return false;
        }
        duskWithoutEnd(s);
        return true;
    }

    /** The document lets DELAY alone go beyond DUSK 200. */
    private void duskWithoutEnd(State s) {
        for (int d = 0; d < told.debts.size(); d++) {
            if (s.owed[d] > 0) {
                s.owed[d] = Math.min(9999, s.owed[d] + grow(s, d));
                if (s.dusk >= told.debts.get(d)[4]) {
                    s.defaulted[d] = true;
                }
            }
            s.paidNow[d] = 0;
        }
        s.dusk++;
        shine(s);
    }

    private int payAll(State s) {
        int sum = 0;
        for (int t = 0; t <= 60; t++) {
            for (int d = 0; d < told.debts.size(); d++) {
                if (told.debts.get(d)[4] == t) {
                    while (pay(s, d, 1)) {
                        sum++;
                    }
                }
            }
        }
        return sum;
    }

    private long asked(String name, int[] a) {
        switch (name) {
            case "fault":
                return faultPlace;
            case "undo":
                if (works.isEmpty()) {
                    return -1;
                }
                state = works.remove(works.size() - 1);
                refused = 0;
                return works.size();
            case "image":
                if (images.size() == 3) {
                    return -1;
                }
                List<State> kept = new ArrayList<>();
                works.forEach(w -> kept.add(w.copy()));
                images.add(new Image(state.copy(), kept));
                return images.size();
            case "restore":
                if (images.isEmpty()) {
                    return -1;
                }
                Image image = images.remove(images.size() - 1);
                state = image.state;
                works = image.works;
                refused = 0;
                return images.size();
            case "status":
                return a[0] == 0 ? noSuch : a[0] == 1 ? illegal : -1;
            case "count":
                return a[0] == 0 ? images.size() : a[0] == 1 ? tape.length() : a[0] == 2 ? works.size() : -1;
            case "told":
                fits(a[0], 0, 8);
                return new int[] {told.creditors.size(), told.debts.size(), told.dusks.size(), told.weddings.size(), state.dusk,
                    state.total(), state.defaults(), book.size(), refused}[a[0]];
            case "creditor":
                such(a[0], told.creditors);
                fits(a[1], 0, 3);
                return a[1] < 2 ? told.creditors.get(a[0])[a[1]] : owedTo(a[0], -1)[a[1] - 2];
            case "debt":
                such(a[0], told.debts);
                fits(a[1], 0, 6);
                int[] debt = told.debts.get(a[0]);
                return new int[] {state.to[a[0]], debt[1], state.owed[a[0]], debt[3], debt[4], state.defaulted[a[0]] ? 1 : 0, state.paid[a[0]]}[a[1]];
            case "light":
                fits(a[0], 0, 3);
                fits(a[1], 0, 4);
                return light(a[0], a[1]);
            case "dusk":
                fits(a[0], 0, 200);
                fits(a[1], 0, 3);
                return told.light(a[0], a[1]);
            case "would":
                fits(a[0], 0, 9999);
                fits(a[1], 0, 16);
                fits(a[2], 0, 200);
                fits(a[3], 0, 99);
                return grow(a[0], a[1], a[2], 0, a[3], 0, 0);
            case "grows":
                such(a[0], told.debts);
                return grow(state, a[0]);
            default:
                return foreseen(name, a);
        }
    }

    private int[] owedTo(int c, int colour) {
        int[] sums = new int[2];
        for (int d = 0; d < told.debts.size(); d++) {
            if (state.to[d] == c && state.owed[d] > 0 && (colour < 0 || told.debts.get(d)[1] == colour)) {
                sums[0]++;
                sums[1] += state.owed[d];
            }
        }
        return sums;
    }

    private int light(int k, int what) {
        int owed = 0;
        int paid = 0;
        for (int d = 0; d < told.debts.size(); d++) {
            if (told.debts.get(d)[1] == k) {
                owed += state.owed[d];
                paid += state.paid[d];
            }
        }
        return new int[] {state.left[k], told.lamp[k] - state.lent[k], state.lent[k], owed, paid}[what];
    }

    private long foreseen(String name, int[] a) {
        State s = state.copy();
        switch (name) {
            case "best":
                fits(a[0], 0, 1);
                return best()[a[0]];
            case "soon":
                for (int i = 0; i <= 60; i++) {
                    payAll(s);
                    if (s.total() == 0) {
                        return s.dusk;
                    }
                    dusk(s);
                }
                return -1;
            case "left":
                fits(a[0], 0, 60);
                for (int i = 0; i < a[0]; i++) {
                    payAll(s);
                    dusk(s);
                }
                return s.total();
            case "delay":
                such(a[0], told.debts);
                fits(a[1], 0, 9999);
                int waited = -1;
                while (waited < 60 && s.owed[a[0]] <= a[1]) {
                    waited++;
                    duskWithoutEnd(s);
                }
                return waited;
            case "next":
                int next = -1;
                for (int d = 0; d < told.debts.size(); d++) {
                    if (s.owed[d] > 0 && (next < 0 || told.debts.get(d)[4] < told.debts.get(next)[4])) {
                        next = d;
                    }
                }
                return next;
            case "decade":
                fits(a[1], 1, 60);
                fits(a[2], 0, 3);
                return decade(a[0], a[1])[a[2]];
            case "span":
                fits(a[1], 1, 20);
                fits(a[2], 1, 60);
                fits(a[3], 0, 2);
                return span(a);
            case "greatest":
                int greatest = -1;
                for (int c = 0; c < told.creditors.size(); c++) {
                    int sum = owedTo(c, -1)[1];
                    if (sum > 0 && (greatest < 0 || sum > owedTo(greatest, -1)[1])) {
                        greatest = c;
                    }
                }
                return greatest;
            default:
                return shore(name, a);
        }
    }

    private int[] best() {
        int n = told.debts.size();
        int[] found = null;
        for (int set = 0; set < 1 << n; set++) {
            int[] left = state.left.clone();
            boolean can = true;
            int growth = 0;
            for (int d = 0; d < n; d++) {
                if ((set >> d & 1) == 1) {
                    can &= state.owed[d] > 0;
                    left[told.debts.get(d)[1]] -= state.owed[d];
                } else {
                    growth += grow(state, d);
                }
            }
            for (int l : left) {
                can &= l >= 0;
            }
            if (can && (found == null || growth < found[0])) {
                found = new int[] {growth, set};
            }
        }
        return found;
    }

    private int[] decade(int seed, int dusks) {
        State s = state.copy();
        int fogs = 0;
        int paid = 0;
        long bits = seed & 0xffffffffL;
        for (int i = 0; i < dusks; i++) {
            bits = (bits * 1103515245L + 12345L) & 0xffffffffL;
            if ((bits >> 16) % 32768 % 16 < told.fog) {
                fogs++;
                s.left = new int[4];
            }
            paid += payAll(s);
            dusk(s);
        }
        return new int[] {s.total(), s.defaults(), fogs, paid};
    }

    private int span(int[] a) {
        List<Integer> owed = new ArrayList<>();
        int clean = 0;
        for (int i = 0; i < a[1]; i++) {
            int[] d = decade(a[0] + i, a[2]);
            owed.add(d[0]);
            clean += d[1] == 0 ? 1 : 0;
        }
        return a[3] == 0 ? java.util.Collections.min(owed) : a[3] == 1 ? java.util.Collections.max(owed) : clean;
    }

    private long shore(String name, int[] a) {
        switch (name) {
            case "brightest":
                fits(a[0], 0, 3);
                int bright = -1;
                for (int e = 0; e < told.dusks.size(); e++) {
                    if (bright < 0 || told.light(e, a[0]) > told.light(bright, a[0])) {
                        bright = e;
                    }
                }
                return bright;
            case "matched":
                return java.util.Arrays.stream(matching()).filter(e -> e < 61).count();
            case "weds":
                such(a[0], told.weddings);
                int day = matching()[a[0]];
                return day == 61 ? -1 : day;
            case "choices":
                such(a[0], told.weddings);
                return choices(a[0]).size();
            case "sees":
                such(a[0], told.creditors);
                return sees(told.creditors.get(a[0])[0], told.creditors.get(a[0])[1]) ? 1 : 0;
            case "eyes":
                fits(a[0], 0, 19);
                for (int h = 0; h <= 99; h++) {
                    if (sees(a[0], h)) {
                        return h;
                    }
                }
                return -1;
            case "chairs":
                fits(a[0], 0, 19);
                fits(a[1], 0, 1);
                return chairs(a[0])[a[1]];
            default:
                return shared(name, a);
        }
    }

    private List<Integer> choices(int w) {
        int[] wedding = told.weddings.get(w);
        List<Integer> fit = new ArrayList<>();
        for (int e = 0; e <= wedding[2]; e++) {
            if (told.light(e, wedding[0]) >= wedding[1]) {
                fit.add(e);
            }
        }
        return fit;
    }

    /** Every way of the first seven choices a wedding has; 61 is none. The first way with the most. */
    private int[] matching() {
        int[] found = new int[told.weddings.size()];
        int[] most = {-1};
        wed(0, new int[told.weddings.size()], 0, found, most);
        return found;
    }

    private void wed(int w, int[] way, int many, int[] found, int[] most) {
        if (w == way.length) {
            if (many > most[0]) {
                most[0] = many;
                System.arraycopy(way, 0, found, 0, way.length);
            }
            return;
        }
        List<Integer> fit = choices(w);
        for (int i = 0; i < fit.size() && i < 6; i++) {
            boolean free = true;
            for (int v = 0; v < w; v++) {
                free &= way[v] != fit.get(i);
            }
            if (free) {
                way[w] = fit.get(i);
                wed(w + 1, way, many + 1, found, most);
            }
        }
        way[w] = 61;
        wed(w + 1, way, many, found, most);
    }

    private boolean sees(int x, int h) {
        double top = h + told.ridge[x];
        for (int j = 0; j < x; j++) {
            if (told.ridge[j] >= top * (j + 1) / (x + 1) - 1e-9) {
                return false;
            }
        }
        return true;
    }

    private int[] chairs(int d) {
        for (int many = 0; many <= 6; many++) {
            int bits = seat(0, many, 0, d);
            if (bits >= 0) {
                return new int[] {many, bits};
            }
        }
        throw new IllegalStateException();
    }

    private int seat(int from, int many, int bits, int d) {
        if (many == 0) {
            for (int[] c : told.creditors) {
                boolean near = false;
                for (int cell = 0; cell < 20; cell++) {
                    near |= (bits >> cell & 1) == 1 && Math.abs(cell - c[0]) <= d;
                }
                if (!near) {
                    return -1;
                }
            }
            return bits;
        }
        for (int cell = from; cell < 20; cell++) {
            int found = seat(cell + 1, many - 1, bits | 1 << cell, d);
            if (found >= 0) {
                return found;
            }
        }
        return -1;
    }

    private long shared(String name, int[] a) {
        switch (name) {
            case "gets":
                such(a[0], told.creditors);
                fits(a[1], 0, 3);
                fits(a[2], 0, 999);
                fits(a[3], 0, 1);
                return gets(a);
            case "owes":
                such(a[0], told.creditors);
                such(a[1], told.creditors);
                return told.owes[a[0]][a[1]];
            case "net":
                such(a[0], told.creditors);
                return net(a[0]);
            case "struck":
                fits(a[0], 0, 1);
                int sum = 0;
                int all = 0;
                for (int c = 0; c < 6; c++) {
                    sum += Math.abs(net(c));
                    for (int d = 0; d < 6; d++) {
                        all += told.owes[c][d];
                    }
                }
                return a[0] == 0 ? sum / 2 : all - sum / 2;
            case "moved":
                int bits = 0;
                for (int s : moved()) {
                    bits += 1 << s;
                }
                return bits;
            case "look":
                fits(a[0], 0, 2);
                return look()[a[0]];
            default:
                return dealt(name, a);
        }
    }

    private int gets(int[] a) {
        int total = 0;
        for (int c = 0; c < told.creditors.size(); c++) {
            total += owedTo(c, a[1])[1];
        }
        int claim = owedTo(a[0], a[1])[1];
        if (a[3] == 0) {
            return total == 0 ? 0 : Math.min(a[2], total) * claim / total;
        }
        int bound = 0;
        for (int b = 0; b <= 9999; b++) {
            int given = 0;
            for (int c = 0; c < told.creditors.size(); c++) {
                given += Math.min(b, owedTo(c, a[1])[1]);
            }
            if (given > a[2]) {
                return Math.min(claim, bound);
            }
            bound = b;
        }
        return claim;
    }

    private int net(int c) {
        int net = 0;
        for (int d = 0; d < 6; d++) {
            net += told.owes[d][c] - told.owes[c][d];
        }
        return net;
    }

    private List<Integer> moved() {
        List<Integer> right = new ArrayList<>();
        for (int s = 0; s < told.dusks.size(); s++) {
            boolean all = true;
            for (int[] line : book) {
                all &= told.light(line[0] + s, line[1]) == line[2];
            }
            if (all) {
                right.add(s);
            }
        }
        return right;
    }

    private int[] look() {
        int[] found = {-1, -1, -1};
        for (int e = 0; e < told.dusks.size(); e++) {
            for (int k = 0; k < 4; k++) {
                boolean open = true;
                for (int[] line : book) {
                    open &= line[0] != e || line[1] != k;
                }
                Map<Integer, Integer> many = new HashMap<>();
                for (int s : moved()) {
                    many.merge(told.light(e + s, k), 1, Integer::sum);
                }
                int worst = many.values().stream().max(Integer::compare).orElse(0);
                if (open && (found[0] < 0 || worst < found[2])) {
                    found = new int[] {e, k, worst};
                }
            }
        }
        return found;
    }

    private long dealt(String name, int[] a) {
        switch (name) {
            case "settle":
                fits(a[0], 0, 999);
                fits(a[1], 0, 999);
                fits(a[2], 0, 999);
                fits(a[3], 0, 6);
                fits(a[4], 0, 1);
                long[] loss = loss(a[0], a[1], a[2], a[3], true);
                return loss[a[4]];
            case "now":
                fits(a[0], 0, 999);
                fits(a[1], 0, 999);
                fits(a[2], 0, 999);
                fits(a[3], 0, 6);
                if (a[3] == 0) {
                    return 1;
                }
                long[] waits = loss(a[0], a[1], a[2], a[3], false);
                return Math.max(0, a[0] - a[1]) * waits[1] <= waits[0] ? 1 : 0;
            case "has":
                fits(a[0], 0, 200);
                fits(a[1], 0, 3);
                fits(a[2], 0, 99);
                fits(a[3], 0, 99);
                return has(told.light(a[0], a[1]), a[2], a[3]);
            case "bids":
                fits(a[0], 0, 200);
                fits(a[1], 0, 3);
                fits(a[2], 0, 20);
                fits(a[3], 0, 2);
                return bids(told.light(a[0], a[1]), a[2])[a[3]];
            default:
                throw new IllegalStateException(name);
        }
    }

    /** The least mean loss with k dusks to wait, in least terms; if it may be paid now or not. */
    private long[] loss(int n, int g, int f, int k, boolean mayPay) {
        long pay = Math.max(0, n - g);
        if (k == 0) {
            return new long[] {pay, 1};
        }
        long[] clear = k == 1 ? new long[] {Math.max(0, n - 2 * g), 1} : loss(n, g, f, k - 1, true);
        long above = told.fog * (long) (n + f) * clear[1] + (16 - told.fog) * clear[0];
        long below = 16 * clear[1];
        if (mayPay && pay * below <= above) {
            return new long[] {pay, 1};
        }
        long d = java.math.BigInteger.valueOf(above).gcd(java.math.BigInteger.valueOf(below)).longValue();
        return new long[] {above / d, below / d};
    }

    private static int has(int light, int own, int other) {
        int gets = own > other ? light : own == other ? light / 2 : 0;
        int pays = own < other ? own / 2 : own;
        return gets - pays;
    }

    private static int[] bids(int light, int n) {
        int[] found = {0, -1, 0};
        for (int x = 0; x <= n; x++) {
            for (int y = 0; y <= n; y++) {
                boolean rest = true;
                for (int z = 0; z <= n; z++) {
                    rest &= has(light, z, y) <= has(light, x, y) && has(light, z, x) <= has(light, y, x);
                }
                if (rest) {
                    found[0]++;
                    if (found[0] == 1) {
                        found[1] = 100 * x + y;
                        found[2] = has(light, x, y);
                    }
                }
            }
        }
        return found;
    }
}
