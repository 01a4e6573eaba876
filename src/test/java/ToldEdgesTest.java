/** The edges that promises 9 to 13 and 15 name: what is told, sentence by sentence. */
public final class ToldEdgesTest {
    private static final Coasts t = new Coasts("ToldEdgesTest");
    private static final int[] FAR = {-1, Integer.MIN_VALUE, Integer.MAX_VALUE};

    /** Six creditors, ten debts of all colours, twelve dusks, six weddings. */
    private static final String FULL = "creditor0 0;creditor3 1;creditor6 2;creditor9 3;creditor12 4;creditor19 20;"
        + "debt0gold1 0 0;debt1rose2 1 1;debt2green3 2 2;debt3grey4 3 3;debt4gold5 4 4;debt5rose6 5 5;"
        + "debt0green7 6 6;debt0grey8 7 7;debt0gold9 8 8;debt5grey99 16 60;"
        + "dusk9 9 9 9;".repeat(11) + "dusk40 0 0 40;" + "wedding gold 9 0;".repeat(5) + "wedding grey 40 60;";

    public static void main(String[] args) {
        told();
        toldAtTheMost();
        refusedSteps();
        creditors();
        debtsOfOne();
        debts();
        paidOnIt();
        lights();
        dusks();
        refusedWhats();
        noSuchAheadOfOthers();
        grows();
        t.end();
    }

    private static void told() {
        t.says("0 CREDITORS, 1 DEBTS, 2 DUSKS, 3 WEDDINGS, 4 the DUSK, 5 all parts that are owed, 6 DEBTS in DEFAULT, 7 lines of the BOOK");
        DuskDebts empty = new DuskDebts();
        for (int what = 0; what <= 8; what++) {
            t.same("of a new object, told(" + what + ")", empty.told(what), 0);
        }
        DuskDebts x = Coasts.on(FULL);
        t.same("creditors", x.told(0), 6);
        t.same("debts", x.told(1), 10);
        t.same("dusks", x.told(2), 12);
        t.same("weddings", x.told(3), 6);
        t.same("the dusk", x.told(4), 0);
        t.same("all parts", x.told(5), 144);
        t.same("in default", x.told(6), 0);
        t.same("lines", x.told(7), 0);
        t.same("lines of a book", Coasts.book(x, "0gold9;".repeat(10)) * 100 + x.told(7), 1010);
        Coasts.law(x, "0");
        Coasts.work(x, "dusk;");
        t.same("one in default", x.told(6), 1);
        Coasts.work(x, "end 0;end 1;dusk;dusk;");
        t.same("one that was ended in time is not, one that was ended later is", x.told(6), 2);
        t.same("all parts", x.told(5), 141);
        t.same("debts that are ended still count as debts", x.told(1), 10);
    }

    private static void toldAtTheMost() {
        DuskDebts x = Coasts.on(FULL);
        t.says("9,999 at most; all parts that are owed; DEBTS in DEFAULT");
        Coasts.law(x, "999");
        Coasts.work(x, "again 9[again 20[dusk;];];");
        Coasts.work(x, "again 20[dusk;];");
        t.same("the last dusk", x.told(4), 200);
        t.same("ten debts", x.told(5), 99990);
        t.same("all of them in default", x.told(6), 10);
        t.same("three of green and two of rose", x.light(2, 3) * 10 + x.light(1, 3) / 9999, 199982);
        t.same("to one", x.creditor(0, 3), 39996);
    }

    private static void refusedSteps() {
        t.says("8 STEPS REFUSED by the latest WORK (0 ahead of any, behind undo(), restore())");
        DuskDebts x = Coasts.on(FULL);
        t.same("ahead of any", x.told(8), 0);
        Coasts.work(x, "hand 0 0;".repeat(16));
        t.same("all", x.told(8), 16);
        Coasts.work(x, "again 20[hand 0 0;hand 0 0;hand 0 0;hand 0 0;hand 0 0;hand 0 0;hand 0 0;hand 0 0;hand 0 0;hand 0 0;];");
        t.same("199 behind an again", x.told(8), 199);
        Coasts.work(x, "");
        t.same("none of a work without steps", x.told(8), 0);
        Coasts.work(x, "hand 0 0;");
        x.image();
        x.image();
        x.undo();
        t.same("behind undo()", x.told(8), 0);
        x.restore();
        t.same("behind restore()", x.told(8), 0);
        Coasts.work(x, "hand 0 0;");
        x.restore();
        t.same("behind restore()", x.told(8), 0);
        Coasts.work(x, "hand 0 0;");
        Coasts.coast(x, FULL);
        t.same("ahead of any of another coast", x.told(8), 0);
    }

    private static void creditors() {
        t.says("Of a CREDITOR: 0 X, 1 H");
        DuskDebts x = Coasts.on(FULL);
        int[] cells = {0, 3, 6, 9, 12, 19};
        int[] heights = {0, 1, 2, 3, 4, 20};
        for (int c = 0; c < 6; c++) {
            t.same("cell of " + c, x.creditor(c, 0), cells[c]);
            t.same("eyes of " + c, x.creditor(c, 1), heights[c]);
        }
        t.says("NoSuchElementException: no such CREDITOR");
        for (int c : new int[] {-1, 6, 7, Integer.MIN_VALUE, Integer.MAX_VALUE}) {
            t.refuses("creditor " + c, Coasts.NO_SUCH, () -> x.creditor(c, 0));
        }
        DuskDebts one = Coasts.on("creditor 4 4;");
        t.same("of one", one.creditor(0, 0), 4);
        t.refuses("a second of one", Coasts.NO_SUCH, () -> one.creditor(1, 0));
    }

    private static void debtsOfOne() {
        t.says("2 how many DEBTS are owed to him (something of them), 3 parts of all COLOURS");
        DuskDebts x = Coasts.on(FULL);
        int[] many = {4, 1, 1, 1, 1, 2};
        int[] parts = {25, 2, 3, 4, 5, 105};
        for (int c = 0; c < 6; c++) {
            t.same("debts to " + c, x.creditor(c, 2), many[c]);
            t.same("parts to " + c, x.creditor(c, 3), parts[c]);
        }
        Coasts.work(x, "pay 6 6;");
        t.same("something of it", x.creditor(0, 2) * 100 + x.creditor(0, 3), 419);
        Coasts.work(x, "pay 6 1;");
        t.same("nothing of it", x.creditor(0, 2) * 100 + x.creditor(0, 3), 318);
        Coasts.work(x, "hand 0 1;hand 8 1;hand 1 5;");
        t.same("by whom they are owed to now", x.creditor(0, 2) * 100 + x.creditor(0, 3), 108);
        t.same("by whom they are owed to now", x.creditor(1, 2) * 100 + x.creditor(1, 3), 210);
        t.same("by whom they are owed to now", x.creditor(5, 2) * 1000 + x.creditor(5, 3), 3107);
    }

    private static void debts() {
        t.says("Of a DEBT: 0 to whom now, 1 K, 2 what is owed now, 3 R, 4 T, 5 1 in DEFAULT, 0 not, 6 paid on it in all by now");
        DuskDebts x = Coasts.on(FULL);
        int[] to = {0, 1, 2, 3, 4, 5, 0, 0, 0, 5};
        int[] colours = {0, 1, 2, 3, 0, 1, 2, 3, 0, 3};
        for (int d = 0; d < 10; d++) {
            t.same("to whom " + d, x.debt(d, 0), to[d]);
            t.same("colour of " + d, x.debt(d, 1), colours[d]);
            t.same("owed of " + d, x.debt(d, 2), d == 9 ? 99 : d + 1);
            t.same("rate of " + d, x.debt(d, 3), d == 9 ? 16 : d);
            t.same("term of " + d, x.debt(d, 4), d == 9 ? 60 : d);
            t.same("in default, paid of " + d, x.debt(d, 5) + x.debt(d, 6), 0);
        }
        t.says("NoSuchElementException: no such DEBT");
        for (int d : new int[] {-1, 10, 11, Integer.MIN_VALUE, Integer.MAX_VALUE}) {
            t.refuses("debt " + d, Coasts.NO_SUCH, () -> x.debt(d, 0));
        }
        DuskDebts one = Coasts.on("creditor 4 4;creditor 5 5;debt 0 gold 1 1 1;");
        t.same("of one", one.debt(0, 2), 1);
        t.refuses("a second of one", Coasts.NO_SUCH, () -> one.debt(1, 0));
    }

    private static void paidOnIt() {
        t.says("5 1 in DEFAULT, 0 not, 6 paid on it in all by now");
        DuskDebts x = Coasts.on("creditor 0 0;creditor 1 1;debt 0 gold 9 16 1;dusk 3 0 0 0;");
        Coasts.work(x, "pay 0 2;pay 0 1;pay 0 1;dusk;");
        t.same("not by dusk T", x.debt(0, 5), 0);
        t.same("paid, owed", x.debt(0, 6) * 100 + x.debt(0, 2), 312);
        Coasts.work(x, "pay 0 3;hand 0 1;dusk;");
        t.same("in default behind dusk T", x.debt(0, 5), 1);
        t.same("paid, owed, to whom", x.debt(0, 6) * 1000 + x.debt(0, 2) * 10 + x.debt(0, 0), 6181);
        t.same("rate, term as told", x.debt(0, 3) * 100 + x.debt(0, 4), 1601);
        t.same("paid of its colour", x.light(0, 4) * 10 + x.light(1, 4), 60);
    }

    private static void lights() {
        t.says("Of a COLOUR (0 to 3): 0 what is left of light, 1 what lamps can lend still, 2 LENT, 3 owed in all, 4 paid in all");
        DuskDebts x = Coasts.on("creditor 0 0;creditor 1 1;debt 0 gold 5 0 9;debt 1 gold 4 0 9;debt 0 grey 99 0 9;"
            + "lamp gold 20;lamp grey 99;dusk 10 0 0 40;dusk 1 0 0 2;");
        int[][] due = {{10, 20, 0, 9, 0}, {0, 0, 0, 0, 0}, {0, 0, 0, 0, 0}, {40, 99, 0, 99, 0}};
        int[][] later = {{9, 12, 8, 0, 9}, {0, 0, 0, 0, 0}, {0, 0, 0, 0, 0}, {40, 0, 99, 0, 99}};
        int[][] next = {{1, 12, 8, 0, 9}, {0, 0, 0, 0, 0}, {0, 0, 0, 0, 0}, {2, 0, 99, 0, 99}};
        lightsAre(x, due);
        Coasts.work(x, "lamp gold 8;lamp grey 99;end 0;pay 1 1;pay 1 3;end 2;");
        t.same("none refused", x.told(8), 0);
        lightsAre(x, later);
        Coasts.work(x, "dusk;");
        lightsAre(x, next);
        for (int colour : new int[] {-1, 4, Integer.MIN_VALUE, Integer.MAX_VALUE}) {
            t.refuses("light of " + colour, Coasts.WRONG, () -> x.light(colour, 0));
        }
    }

    private static void lightsAre(DuskDebts x, int[][] due) {
        for (int k = 0; k < 4; k++) {
            for (int what = 0; what < 5; what++) {
                t.same("light(" + k + ", " + what + ")", x.light(k, what), due[k][what]);
            }
        }
    }

    private static void dusks() {
        t.says("Light of a COLOUR in a DUSK (0 to 200), as told");
        DuskDebts x = Coasts.on(FULL + "lamp gold 5;fog 16;");
        t.same("dusk 0", x.dusk(0, 0), 9);
        t.same("dusk 11", x.dusk(11, 0) * 10 + x.dusk(11, 1), 400);
        t.same("dusk 200, the ninth", x.dusk(200, 0) * 10 + x.dusk(200, 3), 99);
        t.same("dusk 191, the twelfth", x.dusk(191, 0) * 10 + x.dusk(191, 2), 400);
        t.refuses("dusk 201", Coasts.WRONG, () -> x.dusk(201, 0));
        t.refuses("dusk -1", Coasts.WRONG, () -> x.dusk(-1, 0));
        t.refuses("colour 4", Coasts.WRONG, () -> x.dusk(0, 4));
        t.refuses("colour -1", Coasts.WRONG, () -> x.dusk(0, -1));
        Coasts.work(x, "lamp gold 5;pay 8 9;dusk;");
        t.same("as told, not what is left", x.dusk(0, 0), 9);
        DuskDebts none = new DuskDebts();
        t.same("without dusks", none.dusk(0, 0) + none.dusk(200, 3), 0);
        t.refuses("dusk 201 without dusks", Coasts.WRONG, () -> none.dusk(201, 0));
    }

    private static void refusedWhats() {
        t.says("IllegalArgumentException: another what (so below)");
        DuskDebts x = Coasts.on(FULL);
        t.refuses("told(9)", Coasts.WRONG, () -> x.told(9));
        t.refuses("creditor(.., 4)", Coasts.WRONG, () -> x.creditor(5, 4));
        t.refuses("debt(.., 7)", Coasts.WRONG, () -> x.debt(9, 7));
        t.refuses("light(.., 5)", Coasts.WRONG, () -> x.light(3, 5));
        for (int what : FAR) {
            t.refuses("told(" + what + ")", Coasts.WRONG, () -> x.told(what));
            t.refuses("creditor(.., " + what + ")", Coasts.WRONG, () -> x.creditor(0, what));
            t.refuses("debt(.., " + what + ")", Coasts.WRONG, () -> x.debt(0, what));
            t.refuses("light(.., " + what + ")", Coasts.WRONG, () -> x.light(0, what));
        }
        t.same("they are counted", x.status(0) * 100 + x.status(1), 16);
    }

    private static void noSuchAheadOfOthers() {
        t.says("NoSuchElementException: no such CREDITOR, DEBT, WEDDING (so below, ahead of others)");
        DuskDebts x = Coasts.on(FULL);
        t.refuses("creditor(6, 4)", Coasts.NO_SUCH, () -> x.creditor(6, 4));
        t.refuses("debt(10, 7)", Coasts.NO_SUCH, () -> x.debt(10, 7));
        t.refuses("delay(10, -1)", Coasts.NO_SUCH, () -> x.delay(10, -1));
        t.refuses("delay(-1, 10000)", Coasts.NO_SUCH, () -> x.delay(-1, 10000));
        t.refuses("gets(6, 4, 1000, 2)", Coasts.NO_SUCH, () -> x.gets(6, 4, 1000, 2));
        t.refuses("weds(6)", Coasts.NO_SUCH, () -> x.weds(6));
        t.refuses("choices(6)", Coasts.NO_SUCH, () -> x.choices(6));
        t.refuses("sees(6)", Coasts.NO_SUCH, () -> x.sees(6) ? 1 : 0);
        t.refuses("owes(6, 0)", Coasts.NO_SUCH, () -> x.owes(6, 0));
        t.refuses("owes(0, 6)", Coasts.NO_SUCH, () -> x.owes(0, 6));
        t.refuses("net(6)", Coasts.NO_SUCH, () -> x.net(6));
        t.refuses("grows(10)", Coasts.NO_SUCH, () -> x.grows(10));
        t.same("each is counted once, as none such", x.status(0) * 100 + x.status(1), 1200);
        t.same("the last ones are there", x.weds(5) + x.choices(5) + x.net(5) + x.owes(5, 0) + x.owes(0, 5) + x.grows(9), 11 + 5 + 99);
    }

    private static void grows() {
        t.says("By how much a DEBT GROWS, if this DUSK ends now");
        DuskDebts x = Coasts.on("creditor 0 0;debt 0 gold 32 8 0;debt 0 rose 1 8 0;debt 0 grey 99 16 0;dusk 32 1 0 0;");
        t.same("grows", x.grows(0) * 10000 + x.grows(1) * 100 + x.grows(2), 160099);
        Coasts.work(x, "pay 0 1;end 1;");
        t.same("by what is owed now", x.grows(0) * 10000 + x.grows(1) * 100 + x.grows(2), 150099);
        Coasts.law(x, "999");
        t.same("99 at most; not one of which nothing is owed", x.grows(0) * 10000 + x.grows(1) * 100 + x.grows(2), 990099);
        Coasts.law(x, "0-999");
        t.same("0 at least", x.grows(0) + x.grows(1) + x.grows(2), 0);
        Coasts.law(x, "7");
        int owed = x.told(5);
        int more = x.grows(0) + x.grows(1) + x.grows(2);
        Coasts.work(x, "dusk;");
        t.same("so it does", x.told(5), owed + more);
    }
}
