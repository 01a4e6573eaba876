/** What the tests share: texts fed whole, and answers compared. */
final class Coasts {
    /** The coast of the shared tests, with a bit of everything. */
    static final String BAY = "creditor 5 4;creditor 0 0;creditor 9 10;"
        + "debt 0 gold 20 8 1;debt 1 gold 10 4 0;debt 2 rose 6 16 3;"
        + "dusk 12 2 0 0;dusk 5 6 1 0;ridge 2 3;lamp rose 7;"
        + "wedding gold 10 5;wedding gold 5 0;wedding rose 6 3;fog 4;"
        + "owes 0 1 30;owes 1 2 20;owes 2 0 25;";

    interface Call {
        long answer();
    }

    static final int NO_SUCH = 1;
    static final int WRONG = 2;

    private final String test;
    private int asked = 0;
    private int wrong = 0;
    private String sentence = "";

    Coasts(String test) {
        this.test = test;
    }

    /** What the document says and the answers behind this call show, until it says the next thing. */
    void says(String words) {
        sentence = " (" + words + ")";
    }

    void same(String what, long got, long want) {
        same(what, Long.toString(got), Long.toString(want));
    }

    void same(String what, String got, String want) {
        asked++;
        if (!got.equals(want)) {
            wrong++;
            System.out.println(test + ": " + what + " answered " + got + ", due is " + want + sentence);
        }
    }

    void same(String what, boolean got, boolean want) {
        same(what, got ? 1 : 0, want ? 1 : 0);
    }

    void refuses(String what, int how, Call call) {
        int got = 0;
        try {
            call.answer();
        } catch (java.util.NoSuchElementException e) {
            got = e.getClass() == java.util.NoSuchElementException.class ? NO_SUCH : 9;
        } catch (IllegalArgumentException e) {
            got = e.getClass() == IllegalArgumentException.class ? WRONG : 9;
        }
        same(what + " is refused", got, how);
    }

    void text(String what, long got, long want, DuskDebts x, int place) {
        same(what, got, want);
        same("fault() of " + what, x.fault(), place);
    }

    void end() {
        System.out.println(test + ": " + asked + " answers, " + wrong + " wrong");
        if (wrong > 0) {
            System.exit(1);
        }
    }

    static int feed(DuskDebts x, String text) {
        int filled = x.count(1);
        for (int i = 0; i < text.length(); i += 20) {
            filled = x.feed(word(text, i), word(text, i + 4), word(text, i + 8), word(text, i + 12), word(text, i + 16));
        }
        return filled;
    }

    static int word(String text, int from) {
        int word = 0;
        for (int i = from; i < from + 4; i++) {
            word = word << 8 | (i < text.length() ? text.charAt(i) & 255 : 0);
        }
        return word;
    }

    static int coast(DuskDebts x, String text) {
        feed(x, text);
        return x.coast(text.length());
    }

    static int law(DuskDebts x, String text) {
        feed(x, text);
        return x.law(text.length());
    }

    static int work(DuskDebts x, String text) {
        feed(x, text);
        return x.work(text.length());
    }

    static int book(DuskDebts x, String text) {
        feed(x, text);
        return x.book(text.length());
    }

    /** All that can be asked of the state, but for what undo, images, the tape and refusals count. */
    static String all(DuskDebts x) {
        StringBuilder s = new StringBuilder();
        for (int what = 0; what <= 7; what++) {
            s.append(x.told(what)).append(' ');
        }
        for (int c = 0; c < x.told(0); c++) {
            s.append("C").append(x.creditor(c, 2)).append(' ').append(x.creditor(c, 3)).append(' ').append(x.net(c)).append(' ');
        }
        for (int d = 0; d < x.told(1); d++) {
            s.append("D");
            for (int what = 0; what <= 6; what++) {
                s.append(x.debt(d, what)).append(' ');
            }
            s.append(x.grows(d)).append(' ');
        }
        for (int k = 0; k < 4; k++) {
            s.append("K");
            for (int what = 0; what <= 4; what++) {
                s.append(x.light(k, what)).append(' ');
            }
        }
        s.append("M").append(x.moved()).append(' ').append(x.matched()).append(' ').append(x.would(50, 7, 3, 2));
        return s.toString();
    }

    static DuskDebts on(String coast) {
        DuskDebts x = new DuskDebts();
        if (coast(x, coast) < 0) {
            throw new IllegalStateException("the test's own coast has a fault at " + x.fault() + ": " + coast);
        }
        return x;
    }
}
