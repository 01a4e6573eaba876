/** The edges that the document's Terms name for the four texts, and promises 2 to 7: sentence by sentence. */
public final class TextEdgesTest {
    private static final Coasts t = new Coasts("TextEdgesTest");

    private enum Text { COAST, LAW, WORK, BOOK }

    public static void main(String[] args) {
        theTape();
        lengthsOfTexts();
        coastStays();
        coastBegins();
        theFault();
        clauses();
        creditors();
        debts();
        dusks();
        ridges();
        lamps();
        weddings();
        fog();
        owes();
        laws();
        valuesOfLaws();
        namesInLaws();
        works();
        books();
        numbersAndWords();
        blanks();
        firstFault();
        endsTooEarly();
        leastOfOne();
        sevenOpen();
        t.end();
    }

    // ---- what the tests share ----

    private static int read(DuskDebts x, Text kind, String text) {
        switch (kind) {
            case COAST:
                return Coasts.coast(x, text);
            case LAW:
                return Coasts.law(x, text);
            case WORK:
                return Coasts.work(x, text);
            default:
                return Coasts.book(x, text);
        }
    }

    private static DuskDebts fresh(Text kind) {
        return kind == Text.COAST ? new DuskDebts() : Coasts.on(Coasts.BAY);
    }

    private static DuskDebts fits(Text kind, String text) {
        DuskDebts x = fresh(kind);
        int answer = read(x, kind, text);
        t.same(kind + " " + text + " fits", answer >= 0, true);
        t.same("fault() of " + kind + " " + text, x.fault(), -1);
        return x;
    }

    private static void faults(Text kind, String text, int fault, int place) {
        DuskDebts x = fresh(kind);
        t.text(kind + " " + text, read(x, kind, text), fault - 10, x, place);
        t.same("the tape behind " + kind + " " + text, x.count(1), 0);
    }

    /** The number at # is from least to most, and nothing else can stand there. */
    private static void number(Text kind, String text, int least, int most) {
        int place = text.indexOf('#');
        fits(kind, text.replace("#", Integer.toString(least)));
        fits(kind, text.replace("#", Integer.toString(most)));
        fits(kind, text.replace("#", "000" + most));
        faults(kind, text.replace("#", Integer.toString(most + 1)), 2, place);
        faults(kind, text.replace("#", "4294967296"), 2, place);
        faults(kind, text.replace("#", "18446744073709551617"), 2, place);
        faults(kind, text.replace("#", "-1"), 1, place);
        faults(kind, text.replace("#", "x"), 1, place);
        faults(kind, text.replace("#", ";"), 1, place);
        if (least > 0) {
            faults(kind, text.replace("#", Integer.toString(least - 1)), 2, place);
        }
    }

    /** The word at # is one of the four colours. */
    private static void colour(Text kind, String text) {
        int place = text.indexOf('#');
        for (String colour : new String[] {"gold", "rose", "green", "grey"}) {
            fits(kind, text.replace("#", colour));
        }
        for (String none : new String[] {"golds", "gol", "Gold", "gold" + "rose", "0", "3", "black"}) {
            faults(kind, text.replace("#", none), 1, place);
        }
    }

    // ---- promises 2 to 7 ----

    private static void theTape() {
        t.says("Twenty bytes come on the TAPE, of each number the highest first: how many there are");
        DuskDebts x = new DuskDebts();
        t.same("the first twenty", x.feed(0x66666620, 0, 0, 0, 0), 20);
        t.same("of them", x.count(1), 20);
        t.text("three letters", x.coast(4), -9, x, 0);
        x.feed(0x20202020, 0x20202020, 0x20202020, 0x20202066, 0);
        t.text("the sixteenth byte", x.coast(20), -9, x, 15);
        x.feed(0x20202020, 0x20202020, 0x20202020, 0x20202020, 0x20202066);
        t.text("the twentieth byte", x.coast(20), -9, x, 19);

        t.says("NONE, doing nothing, if there would be more than 600");
        Coasts.feed(x, " ".repeat(580));
        t.same("580 bytes", x.count(1), 580);
        t.same("just 600", x.feed(0x20202020, 0x20202020, 0x20202020, 0x20202066, 0x6f672037), 600);
        for (int i = 0; i < 3; i++) {
            t.same("more than 600", x.feed(0x78787878, 0x78787878, 0x78787878, 0x78787878, 0x78787878), -1);
            t.same("600 stay", x.count(1), 600);
        }
        t.text("its bytes stay", x.coast(600), -9, x, 600);
        t.same("room again", x.feed(0, 0, 0, 0, 0), 20);
    }

    private static void lengthsOfTexts() {
        t.says("IllegalArgumentException: n is not 0 to the TAPE's bytes (it stays)");
        DuskDebts x = new DuskDebts();
        t.refuses("coast(1) of an empty tape", Coasts.WRONG, () -> x.coast(1));
        t.refuses("law(1) of an empty tape", Coasts.WRONG, () -> x.law(1));
        t.refuses("work(1) of an empty tape", Coasts.WRONG, () -> x.work(1));
        t.refuses("book(1) of an empty tape", Coasts.WRONG, () -> x.book(1));
        Coasts.feed(x, "fog 16;");
        for (int n : new int[] {-1, 21, 600, 601, Integer.MIN_VALUE, Integer.MAX_VALUE}) {
            t.refuses("coast", Coasts.WRONG, () -> x.coast(n));
            t.refuses("law", Coasts.WRONG, () -> x.law(n));
            t.refuses("work", Coasts.WRONG, () -> x.work(n));
            t.refuses("book", Coasts.WRONG, () -> x.book(n));
        }
        t.same("the tape stays", x.count(1), 20);
        t.text("and its bytes", x.coast(7), 0, x, -1);
        t.same("they were read", x.decade(0, 1, 2), 1);

        t.says("n to 150, n to 150, n to 100");
        DuskDebts y = new DuskDebts();
        Coasts.feed(y, "fog 3;" + " ".repeat(594));
        t.refuses("law(151)", Coasts.WRONG, () -> y.law(151));
        t.refuses("law(600)", Coasts.WRONG, () -> y.law(600));
        t.refuses("work(151)", Coasts.WRONG, () -> y.work(151));
        t.refuses("work(600)", Coasts.WRONG, () -> y.work(600));
        t.refuses("book(101)", Coasts.WRONG, () -> y.book(101));
        t.refuses("book(150)", Coasts.WRONG, () -> y.book(150));
        t.same("600 stay", y.count(1), 600);
        t.same("a coast of 600", y.coast(600), 0);

        t.says("The first n bytes of the TAPE (empty then)");
        for (Text kind : Text.values()) {
            DuskDebts z = Coasts.on(Coasts.BAY);
            Coasts.feed(z, " ".repeat(20) + "zzz");
            t.same("the first twenty", kind == Text.COAST ? z.coast(20) : kind == Text.LAW ? z.law(20) : kind == Text.WORK ? z.work(20) : z.book(20),
                kind == Text.LAW ? -9 : 0);
            t.same("what was not read is gone too", z.count(1), 0);
        }
        DuskDebts none = Coasts.on(Coasts.BAY);
        Coasts.feed(none, "zzz");
        t.text("none of them", none.coast(0), 0, none, -1);
        t.same("empty then", none.count(1), 0);
        t.same("a coast without clauses", none.told(0), 0);
    }

    private static DuskDebts lived() {
        DuskDebts x = Coasts.on(Coasts.BAY);
        Coasts.law(x, "late+paid+3");
        Coasts.book(x, "0 gold 12;1 gold 5;");
        Coasts.work(x, "pay 0 3;lamp rose 2;hand 1 2;dusk;");
        x.image();
        Coasts.work(x, "pay 0 1;pay 0 99;");
        return x;
    }

    private static void coastStays() {
        t.says("or the FAULT less 10 (all stays)");
        for (String text : new String[] {"x", "fog 16;fog 17;", "creditor 1 1;lamp gold 3;ridge 0 9;dusk 1 1 1 1;debt 0 gold 1 1 1", "fog1;".repeat(61)}) {
            DuskDebts x = lived();
            String before = Coasts.all(x);
            t.same("a coast with a fault", Coasts.coast(x, text) < 0, true);
            t.same("all stays", Coasts.all(x), before);
            t.same("images stay", x.count(0), 1);
            t.same("works stay", x.count(2), 2);
            t.same("refused steps stay", x.told(8), 1);
            t.same("fog stays", x.decade(1, 60, 2), lived().decade(1, 60, 2));
            t.same("ridges stay", x.eyes(5), 7);
            t.same("what owes stays", x.owes(0, 1), 30);
            t.same("undo", x.undo(), 1);
            t.same("restore", x.restore(), 0);
        }
        for (Text kind : new Text[] {Text.LAW, Text.WORK, Text.BOOK}) {
            DuskDebts x = lived();
            String before = Coasts.all(x);
            String text = kind == Text.LAW ? "1+" : kind == Text.WORK ? "dusk;lamp rose 1;dusk;zzz;" : "0 gold 3;1 gold 5;2 rose 41;";
            t.same(kind + " with a fault", read(x, kind, text) < 0, true);
            t.same("all stays", Coasts.all(x), before);
            t.same("works stay", x.count(2), 2);
            t.same("refused steps stay", x.told(8), 1);
        }
    }

    private static void coastBegins() {
        t.says("are the COAST (no LAW, BOOK, IMAGES, nothing to undo): how many DEBTS");
        DuskDebts x = lived();
        String fresh = Coasts.all(Coasts.on(Coasts.BAY));
        t.same("the same coast again", Coasts.coast(x, Coasts.BAY), 3);
        t.same("all is as told", Coasts.all(x), fresh);
        t.same("no law", x.would(32, 8, 9, 9), 16);
        t.same("no book", x.told(7), 0);
        t.same("no images", x.count(0), 0);
        t.same("none to restore", x.restore(), -1);
        t.same("nothing to undo", x.count(2), 0);
        t.same("nothing to undo", x.undo(), -1);
        for (int i = 0; i < 2; i++) {
            t.same("other coasts", Coasts.coast(x, "creditor 0 0;creditor 0 0;creditor 0 0;debt 2 gold 1 0 0;dusk 0 0 0 0;"), 1);
            t.same("nothing is owed among them", x.struck(0) + x.struck(1) + x.owes(0, 1) + x.owes(1, 2) + x.net(0), 0);
            t.same("no lamps, ridges, weddings, fog", x.light(1, 1) + x.eyes(5) + x.matched() + x.decade(0, 60, 2), 1);
            t.same("light and debts of its own", x.light(0, 0) * 10 + x.told(5), 1);
        }
        t.same("a coast without clauses", Coasts.coast(x, ""), 0);
        for (int what = 0; what <= 8; what++) {
            t.same("told of a coast without clauses", x.told(what), 0);
        }
        t.same("of no fog", x.decade(0, 60, 2), 0);
        t.same("of no ridge", x.eyes(5), 1);
        t.same("of no lamp", x.light(1, 1), 0);
        t.same("of no light", x.light(0, 0), 0);
    }

    private static void theFault() {
        t.says("The place of the FAULT of the latest text; NONE without");
        DuskDebts x = new DuskDebts();
        t.same("no text", x.fault(), -1);
        Coasts.law(x, "1+1)");
        t.same("of a law", x.fault(), 3);
        Coasts.book(x, "0 gold 1");
        t.same("of a book", x.fault(), 8);
        Coasts.work(x, "dusk;x");
        t.same("of a work", x.fault(), 5);
        t.refuses("a refused call is no text", Coasts.WRONG, () -> x.coast(1));
        t.same("it stays", x.fault(), 5);
        x.undo();
        x.image();
        x.restore();
        Coasts.feed(x, "dusk;");
        t.same("until a text is read", x.fault(), 5);
        x.work(5);
        t.same("NONE without", x.fault(), -1);
        Coasts.law(x, "");
        t.same("at 0", x.fault(), 0);
        Coasts.book(x, "");
        t.same("NONE without", x.fault(), -1);
    }

    // ---- the coast's clauses ----

    private static void clauses() {
        t.says("{ CLAUSE \";\" }, at most 60");
        fits(Text.COAST, "");
        fits(Text.COAST, "fog1;".repeat(59));
        fits(Text.COAST, "fog1;".repeat(60));
        t.same("the sixtieth counts", fits(Text.COAST, "fog0;".repeat(59) + "fog16;").decade(0, 1, 2), 1);
        faults(Text.COAST, "fog1;".repeat(61), 3, 300);
        faults(Text.COAST, "fog1;".repeat(60) + "   fog", 3, 303);
        faults(Text.COAST, "fog1;".repeat(60) + ";", 1, 300);
        t.same("of 600 bytes the last clause counts", fits(Text.COAST, " ".repeat(593) + "fog 16;").decade(0, 1, 2), 1);
    }

    private static void creditors() {
        t.says("\"creditor\" X H (CREDITORS, numbered from 0 on, 6 at most: in CELL X, 0 to 19, eyes H high, 0 to 20)");
        number(Text.COAST, "creditor # 0;", 0, 19);
        number(Text.COAST, "creditor 0 #;", 0, 20);
        DuskDebts x = fits(Text.COAST, "creditor 0 0;creditor 1 1;creditor 2 2;creditor 3 3;creditor 4 4;creditor 19 20;");
        t.same("six", x.told(0), 6);
        t.same("the first is 0", x.creditor(0, 0) + x.creditor(0, 1), 0);
        t.same("the last is 5", x.creditor(5, 0) * 100 + x.creditor(5, 1), 1920);
        t.refuses("there is no 6", Coasts.NO_SUCH, () -> x.creditor(6, 0));
        t.refuses("there is no -1", Coasts.NO_SUCH, () -> x.creditor(-1, 0));
        faults(Text.COAST, "creditor 0 0;".repeat(7), 3, 78);
    }

    private static void debts() {
        t.says("\"debt\" C K N R T (DEBTS likewise, 10: to CREDITOR C, told ahead, N parts of COLOUR K, 1 to 99, RATE R, 0 to 16, by DUSK T, 0 to 60)");
        number(Text.COAST, "creditor 0 0;debt # gold 1 1 1;", 0, 0);
        number(Text.COAST, "creditor 0 0;".repeat(6) + "debt # gold 1 1 1;", 0, 5);
        colour(Text.COAST, "creditor 0 0;debt 0 # 1 1 1;");
        number(Text.COAST, "creditor 0 0;debt 0 gold # 1 1;", 1, 99);
        number(Text.COAST, "creditor 0 0;debt 0 gold 1 # 1;", 0, 16);
        number(Text.COAST, "creditor 0 0;debt 0 gold 1 1 #;", 0, 60);
        faults(Text.COAST, "debt 0 gold 1 1 1;creditor 0 0;", 2, 5);
        faults(Text.COAST, "creditor 0 0;debt 1 gold 1 1 1;creditor 0 0;", 2, 18);
        DuskDebts x = fits(Text.COAST, "creditor 0 0;" + "debt 0 gold 1 1 1;".repeat(9) + "debt 0 grey 99 16 60;");
        t.same("ten", x.told(1), 10);
        t.same("the last is 9", x.debt(9, 1) * 1000000 + x.debt(9, 2) * 10000 + x.debt(9, 3) * 100 + x.debt(9, 4), 3991660);
        t.refuses("there is no 10", Coasts.NO_SUCH, () -> x.debt(10, 0));
        faults(Text.COAST, "creditor 0 0;" + "debt 0 gold 1 1 1;".repeat(11), 3, 193);
    }

    private static void dusks() {
        t.says("\"dusk\" A B C D (DUSKS likewise, 12: so many parts of COLOUR 0, 1, 2, 3, 0 to 40");
        number(Text.COAST, "dusk # 0 0 0;", 0, 40);
        number(Text.COAST, "dusk 0 # 0 0;", 0, 40);
        number(Text.COAST, "dusk 0 0 # 0;", 0, 40);
        number(Text.COAST, "dusk 0 0 0 #;", 0, 40);
        faults(Text.COAST, "dusk 0 0 0 0 0;", 1, 13);
        DuskDebts four = fits(Text.COAST, "dusk 1 2 3 4;");
        for (int k = 0; k < 4; k++) {
            t.same("colour by colour", four.light(k, 0), k + 1);
        }
        faults(Text.COAST, "dusk 1 1 1 1;".repeat(13), 3, 156);

        t.says("behind the last comes the first again; all 0 without");
        StringBuilder text = new StringBuilder();
        for (int e = 0; e < 12; e++) {
            text.append("dusk ").append(e).append(" 0 0 ").append(40 - e).append(';');
        }
        DuskDebts twelve = fits(Text.COAST, text.toString());
        t.same("twelve", twelve.told(2), 12);
        for (int e = 0; e <= 200; e += e < 26 ? 1 : 29) {
            t.same("dusk " + e, twelve.dusk(e, 0), e % 12);
            t.same("dusk " + e, twelve.dusk(e, 3), 40 - e % 12);
        }
        Coasts.work(twelve, "again 11[dusk;];");
        t.same("the last", twelve.light(0, 0), 11);
        Coasts.work(twelve, "dusk;");
        t.same("the first again", twelve.light(0, 0) * 100 + twelve.light(3, 0), 40);
        DuskDebts none = fits(Text.COAST, "creditor 0 0;");
        Coasts.work(none, "dusk;");
        for (int k = 0; k < 4; k++) {
            t.same("all 0 without", none.dusk(0, k) + none.dusk(200, k) + none.light(k, 0), 0);
        }
    }

    private static void ridges() {
        t.says("\"ridge\" X H (CELL X is H high, 0 to 20; 0 without; the last counts)");
        number(Text.COAST, "ridge # 0;", 0, 19);
        number(Text.COAST, "ridge 0 #;", 0, 20);
        t.same("0 without", fits(Text.COAST, "").eyes(19), 1);
        t.same("a ridge of 19", fits(Text.COAST, "ridge 19 5;").eyes(19), 0);
        t.same("the last counts", fits(Text.COAST, "ridge 0 5;ridge 1 20;ridge 0 2;").eyes(1), 0);
        t.same("the last counts", fits(Text.COAST, "ridge 0 2;ridge 0 5;").eyes(1), 11);
        t.same("also if it is 0", fits(Text.COAST, "ridge 0 5;ridge 0 0;").eyes(1), 1);
    }

    private static void lamps() {
        t.says("\"lamp\" K N (lamps can lend N parts of K in all, 0 to 99; 0 without; the last counts)");
        number(Text.COAST, "lamp gold #;", 0, 99);
        colour(Text.COAST, "lamp # 1;");
        DuskDebts x = fits(Text.COAST, "lamp gold 9;lamp grey 99;lamp gold 4;lamp rose 5;lamp rose 0;");
        t.same("the last counts", x.light(0, 1), 4);
        t.same("also if it is 0", x.light(1, 1), 0);
        t.same("0 without", x.light(2, 1), 0);
        t.same("99", x.light(3, 1), 99);
        t.same("none lent at first", x.light(3, 2), 0);
    }

    private static void weddings() {
        t.says("\"wedding\" K N T (WEDDINGS likewise, 6: wants N parts of K, 1 to 40, in a DUSK no later than T, 0 to 60)");
        number(Text.COAST, "wedding gold # 1;", 1, 40);
        number(Text.COAST, "wedding gold 1 #;", 0, 60);
        colour(Text.COAST, "wedding # 1 1;");
        DuskDebts x = fits(Text.COAST, "dusk 0 0 0 40;" + "wedding gold 1 1;".repeat(5) + "wedding grey 40 60;");
        t.same("six", x.told(3), 6);
        t.same("the last is 5", x.choices(5), 61);
        t.refuses("there is no 6", Coasts.NO_SUCH, () -> x.weds(6));
        faults(Text.COAST, "wedding gold 1 1;".repeat(7), 3, 102);
    }

    private static void fog() {
        t.says("\"fog\" Q (0 to 16; 0 without; the last counts)");
        number(Text.COAST, "fog #;", 0, 16);
        t.same("0 without", fits(Text.COAST, "").decade(0, 60, 2), 0);
        t.same("0", fits(Text.COAST, "fog 0;").decade(0, 60, 2), 0);
        t.same("16", fits(Text.COAST, "fog 16;").decade(0, 60, 2), 60);
        t.same("the last counts", fits(Text.COAST, "fog 16;fog 0;").decade(0, 60, 2), 0);
        t.same("the last counts", fits(Text.COAST, "fog 0;fog 16;").decade(0, 60, 2), 60);
    }

    private static void owes() {
        t.says("\"owes\" C D N (CREDITOR C owes CREDITOR D, not himself, N, 1 to 99");
        String two = "creditor 0 0;creditor 0 0;";
        number(Text.COAST, two + "owes 1 # 1;", 0, 0);
        number(Text.COAST, "creditor 0 0;".repeat(6) + "owes 5 # 1;", 0, 4);
        number(Text.COAST, two + "owes 0 1 #;", 1, 99);
        faults(Text.COAST, two + "owes 2 0 1;", 2, 31);
        faults(Text.COAST, two + "owes 0 2 1;", 2, 33);
        faults(Text.COAST, two + "owes 0 0 1;", 2, 33);
        faults(Text.COAST, two + "owes 1 1 100;", 2, 33);
        faults(Text.COAST, "owes 0 1 1;" + two, 2, 5);

        t.says("more add up, to 999 at most");
        String nine = two + "owes 0 1 99;".repeat(10);
        t.same("ten times 99", fits(Text.COAST, nine).owes(0, 1), 990);
        t.same("998", fits(Text.COAST, nine + "owes 0 1 8;").owes(0, 1), 998);
        t.same("999", fits(Text.COAST, nine + "owes 0 1 9;").owes(0, 1), 999);
        t.same("no more", fits(Text.COAST, nine + "owes 0 1 10;").owes(0, 1), 999);
        t.same("no more", fits(Text.COAST, nine + "owes 0 1 99;owes 0 1 99;").owes(0, 1), 999);
        DuskDebts back = fits(Text.COAST, nine + "owes 0 1 10;owes 1 0 7;");
        t.same("the other way is another sum", back.owes(1, 0), 7);
        t.same("net of what is kept", back.net(1), 992);
        t.same("all that is owed among them", back.struck(0) + back.struck(1), 1006);
    }

    // ---- laws ----

    private static void law(String text, int want) {
        DuskDebts x = fits(Text.LAW, text);
        t.same("would by " + text, x.would(50, 7, 3, 2), want);
    }

    private static void laws() {
        t.says("A LAW is a text of up to 150 bytes: E, at the end nothing more");
        law("10" + "+1".repeat(74), 84);
        law("+1".repeat(74).substring(1) + " ".repeat(3), 74);
        faults(Text.LAW, "", 1, 0);
        faults(Text.LAW, "1;", 1, 1);
        faults(Text.LAW, "1 1", 1, 2);
        faults(Text.LAW, "parts parts", 1, 6);
        faults(Text.LAW, "(1)(1)", 1, 3);
        faults(Text.LAW, "1]", 1, 1);
        faults(Text.LAW, "1,1", 1, 1);

        t.says("without: parts * rate / 16");
        DuskDebts x = new DuskDebts();
        t.same("cut", x.would(15, 1, 200, 99), 0);
        t.same("one", x.would(16, 1, 0, 0), 1);
        t.same("cut", x.would(31, 1, 0, 0), 1);
        t.same("rate 0", x.would(9999, 0, 0, 0), 0);
        t.same("no parts", x.would(0, 16, 0, 0), 0);
        t.same("98", x.would(98, 16, 0, 0), 98);

        t.says("what comes out, 0 at least, 99 at most");
        law("98", 98);
        law("99", 99);
        law("100", 99);
        law("999*999", 99);
        law("0", 0);
        law("0-1", 0);
        law("0-999", 0);
        law("100-1", 99);

        t.says("U: N (0 to 999)");
        number(Text.LAW, "#", 0, 999);
        number(Text.LAW, "1+#", 0, 999);
        number(Text.LAW, "least[#,1]", 0, 999);
    }

    private static void valuesOfLaws() {
        t.says("Values are whole numbers of 32 bits that wrap");
        law("512*512*512*16-1", 99);
        law("512*512*512*16", 0);
        law("0-512*512*512*16", 0);
        law("0-512*512*512*16-1", 99);
        law("512*512*512*32", 0);
        law("512*512*512*32+7", 7);
        law("512*512*512*16+512*512*512*16+9", 9);
        law("512*512*512*16/(0-1)", 0);

        t.says("/ cuts, by 0 it is 0");
        law("7/2", 3);
        law("7/7", 1);
        law("6/7", 0);
        law("10+(0-7)/2", 7);
        law("10+7/(0-2)", 7);
        law("7/0", 0);
        law("0/0", 0);
        law("9+7/(3-3)", 9);
        law("(7/0+4)*2", 8);

        t.says("E: T { + or - T }. T: U { * or / U }");
        law("10-4-3", 3);
        law("64/4/2", 8);
        law("2+3*4", 14);
        law("20-2*3-1", 13);
        law("7/2*2", 6);

        t.says("\"least\" \"[\" E \",\" E \"]\", \"most\" \"[\" E \",\" E \"]\"");
        law("least[3,4]", 3);
        law("least[4,3]", 3);
        law("least[4,4]", 4);
        law("most[3,4]", 4);
        law("most[4,3]", 4);
        law("5+least[0-1,3]", 4);
        law("5+most[0-1,0-2]", 4);
        faults(Text.LAW, "least[1]", 1, 7);
        faults(Text.LAW, "least[1,2,3]", 1, 9);
        faults(Text.LAW, "least(1,2)", 1, 5);
        faults(Text.LAW, "least[]", 1, 6);
        faults(Text.LAW, "()", 1, 1);
    }

    private static void namesInLaws() {
        DuskDebts x = Coasts.on("creditor 7 0;creditor 19 0;debt 0 grey 9 16 1;dusk 0 0 0 9;");
        t.says("\"late\" (DUSKS behind T; 0: not), \"dusk\" (which ends)");
        Coasts.law(x, "late");
        t.same("ahead of T", x.grows(0), 0);
        Coasts.work(x, "dusk;");
        t.same("on T", x.grows(0), 0);
        Coasts.work(x, "dusk;");
        t.same("behind T", x.grows(0), 1);
        t.same("nothing grew as T ended", x.debt(0, 2), 9);
        Coasts.work(x, "dusk;");
        t.same("two behind T", x.grows(0), 2);
        t.same("grown", x.debt(0, 2), 10);
        Coasts.law(x, "dusk");
        t.same("the dusk which ends", x.grows(0), 3);

        paidInThisDusk();
        t.says("\"paid\" (on it in this DUSK)");
        Coasts.law(x, "paid");
        t.same("none", x.grows(0), 0);
        Coasts.work(x, "pay 0 4;pay 0 2;pay 0 99;");
        t.same("all of this dusk", x.grows(0), 6);
        Coasts.work(x, "dusk;");
        t.same("it grew by what was paid", x.debt(0, 2), 10);
        t.same("none in the next", x.grows(0), 0);

        t.says("\"parts\" (that are owed), \"rate\", \"colour\", \"cell\" (of its CREDITOR now)");
        Coasts.law(x, "parts");
        t.same("parts", x.grows(0), 10);
        Coasts.law(x, "rate");
        t.same("rate", x.grows(0), 16);
        Coasts.law(x, "colour");
        t.same("colour", x.grows(0), 3);
        Coasts.law(x, "cell");
        t.same("cell", x.grows(0), 7);
        Coasts.work(x, "hand 0 1;");
        t.same("cell of its creditor now", x.grows(0), 19);
        faults(Text.LAW, "cells", 1, 0);
        faults(Text.LAW, "gold", 1, 0);
        faults(Text.LAW, "again", 1, 0);
    }

    private static void paidInThisDusk() {
        t.says("\"paid\" (on it in this DUSK): on each of ten DEBTS");
        DuskDebts x = Coasts.on("creditor 0 0;" + "debt 0 gold 9 0 9;".repeat(10) + "dusk 40 0 0 0;");
        Coasts.law(x, "paid");
        Coasts.work(x, "pay 0 1;pay 1 2;pay 2 3;pay 3 4;pay 4 1;pay 5 1;pay 6 2;pay 7 3;pay 8 4;pay 9 5;");
        int[] paid = {1, 2, 3, 4, 1, 1, 2, 3, 4, 5};
        for (int d = 0; d < 10; d++) {
            t.same("in this dusk, on " + d, x.grows(d), paid[d]);
        }
        Coasts.work(x, "dusk;");
        for (int d = 0; d < 10; d++) {
            t.same("not in the next, on " + d, x.grows(d), 0);
            t.same("paid in all, owed, of " + d, x.debt(d, 6) * 10 + x.debt(d, 2), paid[d] * 10 + 9);
        }
    }

    // ---- works and books ----

    private static void works() {
        t.says("WORK is a text of up to 150 bytes: { STEP \";\" }");
        DuskDebts x = Coasts.on(Coasts.BAY);
        t.same("150 bytes", Coasts.work(x, "dusk;".repeat(30)), 30);
        t.same("thirty dusks", x.told(4), 30);
        t.same("no bytes", Coasts.work(x, ""), 0);
        t.same("it is a work", x.count(2), 2);

        t.says("\"pay\" D N (1 to 99), \"end\" D, \"lamp\" K N (1 to 99), \"hand\" D C, \"dusk\", or \"again\" N \"[\" { STEP \";\" } \"]\" (N 0 to 20)");
        number(Text.WORK, "pay # 1;", 0, 2);
        number(Text.WORK, "pay 0 #;", 1, 99);
        number(Text.WORK, "end #;", 0, 2);
        number(Text.WORK, "lamp rose #;", 1, 99);
        colour(Text.WORK, "lamp # 1;");
        number(Text.WORK, "hand # 0;", 0, 2);
        number(Text.WORK, "hand 0 #;", 0, 2);
        number(Text.WORK, "again #[dusk;];", 0, 20);
        fits(Text.WORK, "again 0[];");
        fits(Text.WORK, "again 20[];");
        faults(Text.WORK, "again 1[dusk];", 1, 12);
        faults(Text.WORK, "again 1[dusk;]", 1, 14);
        faults(Text.WORK, "again 1(dusk;);", 1, 7);
        faults(Text.WORK, "dusk;];", 1, 5);
        faults(Text.WORK, "dusk", 1, 4);
        faults(Text.WORK, ";", 1, 0);
        faults(Text.WORK, "fog 1;", 1, 0);
        faults(Text.WORK, "again 0[pay 3 1;];", 2, 12);
        DuskDebts bare = new DuskDebts();
        t.text("no debt to end", Coasts.work(bare, "end 0;"), -8, bare, 4);
        t.text("no debt to hand", Coasts.work(bare, "hand 0 0;"), -8, bare, 5);
        DuskDebts alone = Coasts.on("creditor 0 0;debt 0 gold 1 1 1;");
        t.text("no other creditor", Coasts.work(alone, "hand 0 1;"), -8, alone, 7);
    }

    private static void books() {
        t.says("A BOOK is one of up to 100 bytes: { E K N \";\" }, 10 lines at most: in DUSK E (0 to 60) N parts of K were seen (0 to 40)");
        t.same("100 bytes, ten lines", fits(Text.BOOK, "60 gold 0;".repeat(10)).told(7), 10);
        t.same("no line", fits(Text.BOOK, "").told(7), 0);
        t.same("nine lines", fits(Text.BOOK, "0gold0;".repeat(9)).told(7), 9);
        number(Text.BOOK, "# gold 0;", 0, 60);
        number(Text.BOOK, "0 gold #;", 0, 40);
        colour(Text.BOOK, "0 # 0;");
        faults(Text.BOOK, "0gold0;".repeat(11), 3, 70);
        faults(Text.BOOK, "0gold0;".repeat(10) + "   60gold", 3, 73);
        faults(Text.BOOK, "0gold0;".repeat(10) + ";", 1, 70);
        faults(Text.BOOK, "0 gold 0", 1, 8);
        faults(Text.BOOK, ";", 1, 0);
        DuskDebts x = Coasts.on(Coasts.BAY);
        Coasts.book(x, "0 gold 12;");
        t.same("one book takes the other's place", Coasts.book(x, "0 gold 5;0 rose 6;") * 10 + x.moved(), 22);
        t.same("and none is one too", Coasts.book(x, " ") * 10 + x.moved(), 3);
    }

    // ---- signs and faults ----

    private static void numbersAndWords() {
        t.says("Numbers: digits, as many as stand there; WORDS: small letters, as many as stand there");
        fits(Text.COAST, "fog" + "0".repeat(500) + "16;");
        faults(Text.COAST, "fog 160;", 2, 4);
        faults(Text.COAST, "fog 1 6;", 1, 6);
        faults(Text.COAST, "fog 1a;", 1, 5);
        faults(Text.COAST, "fog 1.0;", 1, 5);
        faults(Text.COAST, "fog +1;", 1, 4);
        faults(Text.COAST, "fo g1;", 1, 0);
        faults(Text.COAST, "fogg1;", 1, 0);
        faults(Text.COAST, "foga1;", 1, 0);
        faults(Text.COAST, "fogz1;", 1, 0);
        faults(Text.LAW, "latez", 1, 0);
        faults(Text.COAST, "fOg1;", 1, 0);
        faults(Text.COAST, "FOG1;", 1, 0);
        faults(Text.COAST, "fog`1;", 1, 3);
        faults(Text.COAST, "fog{1;", 1, 3);
        faults(Text.COAST, "fog/1;", 1, 3);
        faults(Text.COAST, "fog:1;", 1, 3);
        faults(Text.COAST, "fog 1/;", 1, 5);
        faults(Text.COAST, "fog 1:;", 1, 5);
        faults(Text.COAST, "dusk 1 2 34;", 1, 11);
        faults(Text.COAST, "owesdebt", 1, 0);
        t.same("no blank is needed", Coasts.coast(new DuskDebts(), "creditor0 0;debt0gold1 0 0;debt0rose1 0 0;"), 2);
        faults(Text.LAW, "1parts", 1, 1);
        faults(Text.LAW, "parts1", 1, 5);
        law("0000000007", 7);
    }

    private static void blanks() {
        t.says("blanks (32) may stand ahead of all these, and at the end");
        fits(Text.COAST, "  creditor  0  0  ;  debt  0  gold  1  1  1  ;  ");
        law("  ( 1  +  2 )  *  3  -  least  [  4  ,  5  ]  /  1  ", 5);
        fits(Text.WORK, "  again  2  [  dusk  ;  pay  0  1  ;  ]  ;  ");
        fits(Text.BOOK, "  0  gold  1  ;  ");
        fits(Text.COAST, "   ");
        fits(Text.WORK, "   ");
        fits(Text.BOOK, "   ");
        faults(Text.LAW, "   ", 1, 3);
        for (char other : new char[] {9, 10, 13, 0, 31, 33, 127, 128, 160, 255}) {
            faults(Text.COAST, "fog" + other + "1;", 1, 3);
            faults(Text.COAST, "fog 1;" + other, 1, 6);
            faults(Text.LAW, "1" + other, 1, 1);
            faults(Text.WORK, other + "dusk;", 1, 0);
            faults(Text.BOOK, "0" + other + "gold 1;", 1, 1);
        }
    }

    private static void firstFault() {
        t.says("FAULTS, the first from the left, at its first byte");
        faults(Text.COAST, "fog 17;fog x;", 2, 4);
        faults(Text.COAST, "fog x;fog 17;", 1, 4);
        faults(Text.COAST, "creditor 20 21;", 2, 9);
        faults(Text.COAST, "creditor 0 0;".repeat(6) + "creditor 99 99", 3, 78);
        faults(Text.COAST, "fog 1;   foggy 1;", 1, 9);
        faults(Text.COAST, "fog    00017;", 2, 7);
        faults(Text.LAW, "1000+", 2, 0);
        faults(Text.LAW, "1+x+1000", 1, 2);
        faults(Text.WORK, "pay 9 100;", 2, 4);
        faults(Text.WORK, "dusk;end 0;pay 0 100;again 21[];x", 2, 17);
        faults(Text.BOOK, "61 pink 41;", 2, 0);
        faults(Text.BOOK, "0 pink 41;", 1, 2);
    }

    private static void endsTooEarly() {
        t.says("1 what can't stand there (at the length, if the text ends too early)");
        String coast = "creditor 3 4;debt 0 gold 5 6 7;";
        for (int n = 1; n < coast.length(); n++) {
            boolean ends = n == 13;
            DuskDebts x = new DuskDebts();
            Coasts.feed(x, coast);
            boolean isInWord = n < 8 || n > 13 && n < 17 || n > 20 && n < 24;
            int place = !isInWord ? n : n < 8 ? 0 : n < 17 ? 13 : 20;
            t.text("the first " + n + " bytes", x.coast(n), ends ? 0 : -9, x, ends ? -1 : place);
        }
        DuskDebts x = new DuskDebts();
        Coasts.feed(x, "fog 17;");
        t.text("at the length, not at the tape's end", x.coast(3), -9, x, 3);
        Coasts.feed(x, "fog 17;");
        t.text("a number ends with the text", x.coast(5), -9, x, 5);
        Coasts.feed(x, "fog 17;");
        t.text("a number that is none such ahead of the end", x.coast(6), -8, x, 4);
        faults(Text.COAST, "fog 1   ", 1, 8);
        faults(Text.COAST, "fog   ", 1, 6);
        faults(Text.LAW, "1+   ", 1, 5);
        faults(Text.LAW, "(1   ", 1, 5);
        faults(Text.LAW, "least", 1, 5);
        faults(Text.LAW, "least[", 1, 6);
        faults(Text.LAW, "least[1,", 1, 8);
        faults(Text.LAW, "1" + "+1".repeat(74) + "+", 1, 150);
        faults(Text.WORK, "again 1[dusk;   ", 1, 16);
        faults(Text.WORK, "again 1", 1, 7);
        faults(Text.BOOK, "0 gold 1;1 ", 1, 11);
    }

    private static void leastOfOne() {
        t.says("of one the least");
        faults(Text.COAST, "fog1;".repeat(60) + "fig1;", 1, 300);
        faults(Text.COAST, "fog1;".repeat(60) + "1;", 1, 300);
        faults(Text.COAST, "creditor0 0;".repeat(6) + "creditors", 1, 72);
        faults(Text.BOOK, "0gold0;".repeat(10) + "61gold0;", 2, 70);
        faults(Text.BOOK, "0gold0;".repeat(10) + "gold", 1, 70);
        faults(Text.BOOK, "0gold0;".repeat(10) + "60pink", 3, 70);
        faults(Text.LAW, "((((((x", 1, 6);
    }

    private static void sevenOpen() {
        t.says("a 7th of ( least most again that is open at one time");
        law("((((((8))))))", 8);
        law("((((((8))))))*((((((2))))))", 16);
        law("least[(((((8))))),(((((9)))))]", 8);
        law("most[most[most[most[most[most[1,2],3],4],5],6],7]", 7);
        faults(Text.LAW, "(((((((8)))))))", 3, 6);
        faults(Text.LAW, "((((((8+(1", 3, 8);
        faults(Text.LAW, "((((((least", 3, 6);
        faults(Text.LAW, "((((((most[", 3, 6);
        faults(Text.LAW, "((((((  most", 3, 8);
        faults(Text.LAW, "least[1,((((((2))))))]", 3, 13);
        faults(Text.LAW, "least[((((((2)))))),1]", 3, 11);
        faults(Text.LAW, "((((((1))))))+(((((((1", 3, 20);
        String six = "again 1[".repeat(6);
        fits(Text.WORK, six + "dusk;" + "];".repeat(6));
        t.same("six agains", Coasts.work(Coasts.on(Coasts.BAY), six + "dusk;" + "];".repeat(6) + six + "dusk;" + "];".repeat(6)), 2);
        faults(Text.WORK, six + "again", 3, 48);
        faults(Text.WORK, six + "dusk; again 0[];", 3, 54);
        faults(Text.WORK, six + "];again 1[again 1", 3, 58);
    }
}
