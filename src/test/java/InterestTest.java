/** Promises 4, 14, 15: the law and what grows by it. */
public final class InterestTest {
    private static final Coasts t = new Coasts("InterestTest");

    public static void main(String[] args) {
        plain();
        reckoned();
        names();
        t.end();
    }

    private static void plain() {
        DuskDebts x = new DuskDebts();
        t.same("cut", x.would(31, 1, 0, 0), 1);
        t.same("99 at most", x.would(99, 16, 0, 0), 99);
        t.same("99 at most", x.would(100, 16, 0, 0), 99);
        t.same("late and paid do not count", x.would(50, 8, 200, 99), 25);
    }

    private static void law(String text, long want) {
        DuskDebts x = new DuskDebts();
        t.same("law " + text + " is read", Coasts.law(x, text), 1);
        t.same("law " + text, x.would(50, 7, 3, 2), want);
    }

    private static void reckoned() {
        law("1+2*3", 7);
        law("(1+2)*3", 9);
        law("10-3-2", 5);
        law("100/7/2", 7);
        law("9*2/4", 4);
        law("9/4*2", 4);
        law("5-9", 0);
        law("(5-9)*(0-2)", 8);
        law("10+(5-9)/3", 9);
        law("10+(0-7)/2", 7);
        law("7/0", 0);
        law("5+7/(3-3)", 5);
        law("999", 99);
        law("least[4,9]", 4);
        law("most[4,9]", 9);
        law("most [ 4 , least [ 9 , 6 ] ] + 1", 7);
        law("least[0-5,3]+9", 4);
        law("999*999*999*999*999", clamped(999 * 999 * 999 * 999 * 999));
        law("(999*999*999*4+999)/999/100", clamped((999 * 999 * 999 * 4 + 999) / 999 / 100));
        law("parts", 50);
        law("rate", 7);
        law("late", 3);
        law("paid", 2);
        law("dusk+colour+cell+1", 1);
        law(" 0007 ", 7);
        DuskDebts x = new DuskDebts();
        Coasts.law(x, "5");
        t.same("by the law even for no parts", x.would(0, 0, 0, 0), 5);
        Coasts.law(x, "(0-512*512*512*8*2)/(0-1)");
        t.same("the least whole number by -1 wraps", x.would(0, 0, 0, 0), 0);
    }

    private static long clamped(int value) {
        return Math.max(0, Math.min(99, value));
    }

    private static void names() {
        DuskDebts x = Coasts.on("creditor 7 0;creditor 11 0;debt 0 green 9 5 1;dusk 0 0 20 0;dusk 0 0 20 0;");
        Coasts.law(x, "cell");
        t.same("cell", x.grows(0), 7);
        Coasts.work(x, "hand 0 1;");
        t.same("cell of its creditor now", x.grows(0), 11);
        Coasts.law(x, "colour");
        t.same("colour", x.grows(0), 2);
        Coasts.law(x, "dusk*10+late");
        t.same("dusk 0", x.grows(0), 0);
        Coasts.work(x, "dusk;");
        t.same("not late in dusk 1", x.grows(0), 10);
        Coasts.work(x, "dusk;dusk;");
        t.same("two behind", x.grows(0), 32);
        t.same("grown by 0, 10, 21", x.debt(0, 2), 40);
        Coasts.law(x, "paid");
        Coasts.work(x, "pay 0 2;pay 0 3;");
        t.same("paid in this dusk", x.grows(0), 5);
        Coasts.work(x, "dusk;");
        t.same("not in the next", x.grows(0), 0);
        t.same("paid in all", x.debt(0, 6), 5);
        Coasts.law(x, "9");
        Coasts.work(x, "end 0;");
        t.same("too little light", x.told(8), 1);
        Coasts.work(x, "pay 0 20;dusk;pay 0 20;dusk;end 0;");
        t.same("all is paid", x.debt(0, 2), 0);
        t.same("nothing grows", x.grows(0), 0);
        Coasts.work(x, "dusk;");
        t.same("nothing grew", x.debt(0, 2), 0);
    }
}
