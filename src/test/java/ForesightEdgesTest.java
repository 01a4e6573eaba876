/** The edges that the document's part ==== 3. and promises 14, 16 to 20 name, sentence by sentence. */
public final class ForesightEdgesTest {
    private static final Coasts t = new Coasts("ForesightEdgesTest");

    public static void main(String[] args) {
        would();
        best();
        bestByHand();
        bestOfTen();
        soon();
        soonByTerm();
        soonBeyond();
        left();
        delay();
        delayAtTheMost();
        next();
        tenDebts();
        nothingStaysChanged();
        t.end();
    }

    private static DuskDebts onDusk(int dusk, String coast) {
        DuskDebts x = Coasts.on(coast);
        Coasts.law(x, "0");
        for (int i = 0; i < dusk / 190; i++) {
            Coasts.work(x, "again 19[again 9[dusk;];];again 20[dusk;];");
        }
        for (int gone = x.told(4); gone < dusk; gone = x.told(4)) {
            int step = Math.min(20, dusk - gone);
            Coasts.work(x, "again " + step + "[dusk;];");
        }
        t.same("the test's own dusk", x.told(4), dusk);
        return x;
    }

    private static void would() {
        t.says("GROWS by the LAW for such parts (0 to 9,999), rate (0 to 16), late (0 to 200), paid (0 to 99); DUSK 0, COLOUR 0, CELL 0");
        DuskDebts x = onDusk(7, "creditor 19 0;debt 0 grey 99 16 0;");
        Coasts.law(x, "dusk+colour+cell");
        t.same("dusk 0, colour 0, cell 0", x.would(9999, 16, 200, 99), 0);
        Coasts.law(x, "parts/101");
        t.same("parts 9,999", x.would(9999, 0, 0, 0), 99);
        t.same("parts 9,998", x.would(9998, 0, 0, 0), 98);
        t.same("parts 0", x.would(0, 16, 200, 99), 0);
        Coasts.law(x, "rate");
        t.same("rate 0", x.would(9999, 0, 200, 99), 0);
        t.same("rate 16", x.would(0, 16, 0, 0), 16);
        Coasts.law(x, "late-120");
        t.same("late 200", x.would(0, 0, 200, 0), 80);
        t.same("late 0", x.would(9999, 16, 0, 99), 0);
        Coasts.law(x, "paid");
        t.same("paid 99", x.would(0, 0, 0, 99), 99);
        t.same("paid 0", x.would(9999, 16, 200, 0), 0);
        Coasts.law(x, "4");
        t.same("by the law, also for no parts", x.would(0, 0, 0, 0), 4);
        int[][] wrong = {{-1, 0, 0, 0}, {10000, 0, 0, 0}, {0, -1, 0, 0}, {0, 17, 0, 0}, {0, 0, -1, 0}, {0, 0, 201, 0}, {0, 0, 0, -1}, {0, 0, 0, 100}};
        for (int[] w : wrong) {
            t.refuses("would", Coasts.WRONG, () -> x.would(w[0], w[1], w[2], w[3]));
        }
        t.same("each is counted", x.status(1), 8);
    }

    // ---- best ----

    private static void best(DuskDebts x, int bits, int grows) {
        t.same("best, which", x.best(1), bits);
        t.same("best, what would grow", x.best(0), grows);
    }

    private static void best() {
        t.says("of all sets of DEBTS that could be ended now (each COLOUR by what is left)");
        best(new DuskDebts(), 0, 0);
        best(Coasts.on("creditor 0 0;debt 0 gold 16 1 0;dusk 15 0 0 0;"), 0, 1);
        best(Coasts.on("creditor 0 0;debt 0 gold 1 16 0;dusk 1 0 0 0;"), 1, 0);
        best(Coasts.on("creditor 0 0;debt 0 gold 1 16 0;dusk 0 0 0 0;"), 0, 1);
        best(Coasts.on("creditor 0 0;debt 0 gold 16 1 0;dusk 16 0 0 0;"), 1, 0);
        best(Coasts.on("creditor 0 0;debt 0 gold 16 1 0;dusk 0 40 40 40;"), 0, 1);
        best(Coasts.on("creditor 0 0;debt 0 gold 16 1 0;debt 0 gold 16 1 0;dusk 31 0 0 0;"), 1, 1);
        best(Coasts.on("creditor 0 0;debt 0 gold 16 1 0;debt 0 gold 16 1 0;dusk 32 0 0 0;"), 3, 0);
        DuskDebts paid = Coasts.on("creditor 0 0;debt 0 gold 16 16 0;debt 0 gold 17 1 0;dusk 17 0 0 0;");
        best(paid, 1, 1);
        Coasts.work(paid, "pay 1 1;pay 0 1;");
        best(paid, 1, 1);
        Coasts.work(paid, "pay 0 1;");
        best(paid, 1, 1);
        Coasts.work(paid, "end 0;");
        best(paid, 0, 1);
        DuskDebts lit = Coasts.on("creditor 0 0;debt 0 gold 16 1 0;dusk 15 0 0 0;lamp gold 1;");
        best(lit, 0, 1);
        Coasts.work(lit, "lamp gold 1;");
        best(lit, 1, 0);

        t.says("the one by which least would GROW as this DUSK ends, if the others get nothing more; of alike ones the least bits");
        DuskDebts alike = Coasts.on("creditor 0 0;debt 0 gold 5 16 0;debt 0 gold 2 16 0;debt 0 gold 3 16 0;dusk 5 0 0 0;");
        best(alike, 1, 5);
        Coasts.law(alike, "1");
        best(alike, 6, 1);
        Coasts.law(alike, "0");
        best(alike, 0, 0);
        DuskDebts back = Coasts.on("creditor 0 0;debt 0 gold 2 16 0;debt 0 gold 3 16 0;debt 0 gold 5 16 0;dusk 5 0 0 0;");
        best(back, 3, 5);
        Coasts.law(back, "paid");
        Coasts.work(back, "pay 2 1;");
        best(back, 4, 0);
        DuskDebts grown = Coasts.on("creditor 0 0;debt 0 gold 40 16 0;debt 0 gold 39 16 0;dusk 40 0 0 0;");
        best(grown, 1, 39);
        Coasts.law(grown, "999");
        best(grown, 1, 99);

        t.says("BEST: 0 what would GROW, 1 which (bits); IllegalArgumentException: another what");
        t.refuses("best(2)", Coasts.WRONG, () -> grown.best(2));
        t.refuses("best(-1)", Coasts.WRONG, () -> grown.best(-1));
    }

    /** Every set is tried: what can be ended by work, and what the others would grow by then. */
    private static void bestByHand() {
        t.says("of all sets .. the one by which least would GROW .., of alike ones the least bits");
        String debts = "debt 0 gold 6 7 0;debt 0 rose 5 9 0;debt 0 gold 4 16 0;debt 0 gold 3 3 0;debt 0 rose 9 16 0;";
        for (String dusk : new String[] {"dusk 0 0 0 0;", "dusk 6 5 0 0;", "dusk 7 14 0 0;", "dusk 9 9 0 0;", "dusk 12 13 0 0;", "dusk 13 14 0 0;"}) {
            for (String law : new String[] {"parts*rate/16", "3", "rate", "parts", "20-parts", "0"}) {
                int least = Integer.MAX_VALUE;
                int which = -1;
                for (int bits = 0; bits < 32; bits++) {
                    DuskDebts x = Coasts.on("creditor 0 0;" + debts + dusk);
                    Coasts.law(x, law);
                    StringBuilder ends = new StringBuilder();
                    int grows = 0;
                    for (int d = 0; d < 5; d++) {
                        ends.append((bits >> d & 1) == 1 ? "end " + d + ";" : "");
                        grows += (bits >> d & 1) == 1 ? 0 : x.grows(d);
                    }
                    boolean could = Coasts.work(x, ends.toString()) == Integer.bitCount(bits);
                    if (could && grows < least) {
                        least = grows;
                        which = bits;
                    }
                }
                DuskDebts x = Coasts.on("creditor 0 0;" + debts + dusk);
                Coasts.law(x, law);
                best(x, which, least);
            }
        }
    }

    private static void bestOfTen() {
        t.says("1 which (bits): of ten DEBTS");
        String ten = "creditor 0 0;" + "debt 0 gold 4 16 0;".repeat(10);
        best(Coasts.on(ten + "dusk 40 0 0 0;"), 1023, 0);
        best(Coasts.on(ten + "dusk 39 0 0 0;"), 511, 4);
        best(Coasts.on(ten + "dusk 3 0 0 0;"), 0, 40);
        best(Coasts.on(ten + "dusk 4 0 0 0;"), 1, 36);
        best(Coasts.on("creditor 0 0;" + "debt 0 gold 5 0 0;".repeat(9) + "debt 0 gold 4 16 0;dusk 5 0 0 0;"), 512, 0);
        DuskDebts most = Coasts.on("creditor 0 0;" + "debt 0 gold 99 16 0;".repeat(10));
        best(most, 0, 990);
    }

    // ---- soon, left, delay, next ----

    private static void soon() {
        t.says("the DUSK in which nothing is owed any more (this one, if nothing is)");
        t.same("of a new object", new DuskDebts().soon(), 0);
        t.same("nothing is owed on dusk 9", onDusk(9, "creditor 0 0;").soon(), 9);
        t.same("nothing is owed on dusk 200", onDusk(200, "dusk 1 1 1 1;").soon(), 200);
        DuskDebts ended = onDusk(3, "creditor 0 0;debt 0 gold 4 0 0;dusk 4 0 0 0;");
        t.same("by this one's light", ended.soon(), 3);
        Coasts.work(ended, "end 0;");
        t.same("ended", ended.soon(), 3);
        Coasts.work(ended, "dusk;");
        t.same("ended in an earlier one", ended.soon(), 4);

        t.says("as far as it goes (as pay)");
        DuskDebts some = Coasts.on("creditor 0 0;debt 0 gold 4 0 0;dusk 3 0 0 0;dusk 0 9 9 9;dusk 1 0 0 0;");
        t.same("3, none, 1", some.soon(), 2);
        Coasts.work(some, "pay 0 1;");
        t.same("this one's light is what is left", some.soon(), 2);
        Coasts.work(some, "pay 0 2;dusk;");
        t.same("from dusk 1 on", some.soon(), 2);
        DuskDebts lit = Coasts.on("creditor 0 0;debt 0 gold 4 0 0;dusk 3 0 0 0;dusk 0 0 0 0;lamp gold 9;");
        t.same("a lamp's light that is not lent is not there", lit.soon(), 2);
        Coasts.work(lit, "lamp gold 1;");
        t.same("a lamp's light that is lent is", lit.soon(), 0);
        DuskDebts byPaid = Coasts.on("creditor 0 0;debt 0 gold 5 0 9;dusk 3 0 0 0;");
        Coasts.law(byPaid, "paid-1");
        t.same("it grows by what was paid: 5, 4, 3, 0", byPaid.soon(), 2);
        Coasts.law(byPaid, "paid");
        t.same("by all of it: 5, 5, ..", byPaid.soon(), -1);
    }

    private static void soonByTerm() {
        t.says("each COLOUR's light goes to its DEBTS by T, of alike ones by number");
        String two = "creditor 0 0;debt 0 gold 4 16 #;debt 0 gold 4 0 7;dusk 4 0 0 0;";
        t.same("of the least T first: it grows no more", Coasts.on(two.replace("#", "6")).soon(), 1);
        t.same("of alike ones the first", Coasts.on(two.replace("#", "7")).soon(), 1);
        t.same("else it is doubled, again and again", Coasts.on(two.replace("#", "8")).soon(), -1);
        t.same("else it is doubled", Coasts.on(two.replace("#", "8")).left(1), 8);
        DuskDebts rest = Coasts.on("creditor 0 0;debt 0 gold 2 0 1;debt 0 rose 5 0 0;debt 0 gold 3 0 0;debt 0 gold 2 0 2;dusk 6 5 0 0;");
        t.same("what is left of it goes on to the next", rest.left(1), 1);
        t.same("colour by colour", rest.soon(), 1);
        DuskDebts terms = Coasts.on("creditor 0 0;debt 0 gold 1 16 60;debt 0 gold 1 16 0;debt 0 gold 1 16 59;debt 0 gold 1 16 1;dusk 1 0 0 0;");
        t.same("1 of 4", terms.left(1), 6);
        t.same("1 of 6: by T 1", terms.left(2), 10);
    }

    private static void soonBeyond() {
        t.says("of this one and the next 60; NONE");
        String slow = "creditor 0 0;debt 0 gold # 0 0;dusk 1 0 0 0;";
        for (int dusk : new int[] {0, 5, 139, 140}) {
            t.same("in this one", onDusk(dusk, slow.replace("#", "1")).soon(), dusk);
            t.same("in the next", onDusk(dusk, slow.replace("#", "2")).soon(), dusk + 1);
            t.same("in the 60th", onDusk(dusk, slow.replace("#", "61")).soon(), dusk + 60);
            t.same("in none of these", onDusk(dusk, slow.replace("#", "62")).soon(), -1);
        }
        t.same("never", Coasts.on("creditor 0 0;debt 0 gold 1 0 0;dusk 0 9 9 9;").soon(), -1);
        t.says("dusk (REFUSED on DUSK 200)");
        t.same("as far as dusk 200", onDusk(141, slow.replace("#", "60")).soon(), 200);
        t.same("and no farther", onDusk(141, slow.replace("#", "61")).soon(), -1);
        t.same("on dusk 200", onDusk(200, slow.replace("#", "1")).soon(), 200);
        t.same("on dusk 200", onDusk(200, slow.replace("#", "2")).soon(), -1);
    }

    private static void left() {
        t.says("What is owed in all behind so many DUSKS (0 to 60) by SOON (as the next one begins)");
        t.same("of a new object", new DuskDebts().left(0) + new DuskDebts().left(60), 0);
        DuskDebts x = Coasts.on("creditor 0 0;debt 0 gold 62 0 0;debt 0 rose 9 16 2;dusk 1 3 0 0;");
        t.same("behind none nothing is paid yet", x.left(0), 71);
        t.same("as the next one begins, grown", x.left(1), 61 + 12);
        t.same("behind two", x.left(2), 60 + 18);
        t.same("behind three", x.left(3), 59 + 30);
        Coasts.law(x, "0");
        t.same("behind 59", x.left(59), 3);
        t.same("behind 60", x.left(60), 2);
        t.refuses("behind 61", Coasts.WRONG, () -> x.left(61));
        t.refuses("behind -1", Coasts.WRONG, () -> x.left(-1));
        DuskDebts most = onDusk(101, "creditor 0 0;debt 0 gold 99 0 0;");
        Coasts.law(most, "999");
        t.same("99 a dusk", most.left(60), 99 * 61);
        t.same("dusk 200 ends no more", onDusk(200, "creditor 0 0;debt 0 gold 9 0 0;dusk 1 0 0 0;").left(60), 8);
        t.same("9,999 at most", owedMost().left(60), 9999);
        t.same("9,999 at most", owedMost().left(1), 9999);
    }

    /** A debt of 9,999 parts, on dusk 101. */
    private static DuskDebts owedMost() {
        DuskDebts x = Coasts.on("creditor 0 0;debt 0 gold 99 0 0;lamp gold 1;");
        Coasts.law(x, "99");
        Coasts.work(x, "again 5[again 20[dusk;];];dusk;");
        t.same("the test's own debt", x.debt(0, 2), 9999);
        return x;
    }

    private static void delay() {
        t.says("by how many DUSKS (0 to 60, also beyond DUSK 200) it may wait, nothing more being paid on it, and is no more than x");
        DuskDebts x = Coasts.on("creditor 0 0;debt 0 gold 10 0 3;dusk 40 0 0 0;");
        Coasts.law(x, "2");
        t.same("it is no more than 10 now", x.delay(0, 10), 0);
        t.same("nor than 11", x.delay(0, 11), 0);
        t.same("one dusk", x.delay(0, 12), 1);
        t.same("59", x.delay(0, 129), 59);
        t.same("60", x.delay(0, 130), 60);
        t.same("60 at most", x.delay(0, 132), 60);
        t.same("60 at most", x.delay(0, 9999), 60);
        t.says("NONE: it is more than x now");
        t.same("it is more than 9", x.delay(0, 9), -1);
        t.same("it is more than 0", x.delay(0, 0), -1);
        Coasts.work(x, "end 0;");
        t.same("nothing is owed, and nothing grows", x.delay(0, 0), 60);
        t.says("x (0 to 9,999)");
        t.refuses("x -1", Coasts.WRONG, () -> x.delay(0, -1));
        t.refuses("x 10,000", Coasts.WRONG, () -> x.delay(0, 10000));
        t.refuses("no such debt", Coasts.NO_SUCH, () -> x.delay(1, 0));
        t.refuses("no such debt", Coasts.NO_SUCH, () -> x.delay(-1, 0));
    }

    private static void delayAtTheMost() {
        t.says("also beyond DUSK 200");
        for (int dusk : new int[] {0, 139, 140, 141, 170, 199, 200}) {
            DuskDebts x = onDusk(dusk, "creditor 0 0;debt 0 gold 10 0 60;");
            Coasts.law(x, "1");
            t.same("60 from dusk " + dusk, x.delay(0, 70), 60);
            t.same("59 from dusk " + dusk, x.delay(0, 69), 59);
            Coasts.law(x, "late-dusk+61");
            t.same("late and dusk go on", x.delay(0, 70), dusk > 60 ? 60 : 0);
        }
        DuskDebts late = onDusk(199, "creditor 0 0;debt 0 gold 10 0 0;");
        Coasts.law(late, "late-199");
        t.same("0, 1, 2 .. more", late.delay(0, 13), 3);
        t.same("to 59", late.delay(0, 10 + 59 * 60 / 2), 60);
        t.same("not quite", late.delay(0, 9 + 59 * 60 / 2), 59);

        t.says("paid (on it in this DUSK): nothing more being paid on it");
        DuskDebts paid = Coasts.on("creditor 0 0;debt 0 gold 10 0 0;dusk 40 0 0 0;");
        Coasts.law(paid, "paid");
        Coasts.work(paid, "pay 0 4;");
        t.same("6, 10, 10 ..", paid.delay(0, 9), 0);
        t.same("6, 10, 10 ..", paid.delay(0, 10), 60);

        t.says("9,999 at most");
        DuskDebts most = owedMost();
        t.same("it is more than 9,998", most.delay(0, 9998), -1);
        t.same("it is never more than 9,999", most.delay(0, 9999), 60);
        DuskDebts nearly = owedMost();
        Coasts.work(nearly, "lamp gold 1;pay 0 1;");
        t.same("9,998, and 9,999 from then on", nearly.delay(0, 9998) * 100 + nearly.delay(0, 9999), 60);
    }

    private static void next() {
        t.says("of those of which something is owed the one of the least T, of these the first; NONE");
        t.same("of a new object", new DuskDebts().next(), -1);
        DuskDebts x = Coasts.on("creditor 0 0;debt 0 gold 2 0 60;debt 0 rose 2 0 1;debt 0 gold 2 0 0;debt 0 gold 2 0 0;debt 0 grey 2 0 1;dusk 9 9 9 9;");
        t.same("of T 0 the first", x.next(), 2);
        Coasts.work(x, "pay 2 1;");
        t.same("something is owed", x.next(), 2);
        Coasts.work(x, "pay 2 1;");
        t.same("of T 0 the second", x.next(), 3);
        Coasts.work(x, "end 3;");
        t.same("of T 1 the first", x.next(), 1);
        Coasts.work(x, "dusk;dusk;");
        t.same("whatever the dusk", x.next(), 1);
        Coasts.work(x, "end 1;end 0;");
        t.same("of T 1 the second", x.next(), 4);
        Coasts.work(x, "end 4;");
        t.same("none", x.next(), -1);
        x.undo();
        x.undo();
        t.same("again", x.next(), 1);
    }

    private static void tenDebts() {
        t.says("each COLOUR's light goes to its DEBTS by T: of ten DEBTS");
        DuskDebts x = Coasts.on("creditor 0 0;creditor 1 1;" + "debt 1 gold 4 0 9;".repeat(9) + "debt 0 gold 4 0 8;dusk 13 0 0 0;");
        t.same("as told", x.told(5), 40);
        t.same("the last is due first", x.next(), 9);
        t.same("three of them are ended, one is begun", x.left(1), 27);
        t.same("in four", x.soon(), 3);
        t.same("in a decade", x.decade(0, 3, 0) * 100 + x.decade(0, 3, 3), 139);
        Coasts.work(x, "again 3[end 9;end 0;end 1;end 2;end 3;end 4;end 5;end 6;end 7;end 8;dusk;];");
        t.same("one is left", x.next() * 10 + x.told(5), 84);
        t.same("paid on the last", x.debt(9, 6) * 10 + x.debt(8, 6), 40);
        Coasts.work(x, "end 8;");
        t.same("all are ended", x.next(), -1);
        t.same("nothing is owed", x.told(5) + x.soon() + x.left(60), 3);
        t.same("paid of gold in all", x.light(0, 4) * 10 + x.light(1, 4), 400);
    }

    private static void nothingStaysChanged() {
        t.says("Asked, nothing stays changed");
        DuskDebts x = Coasts.on(Coasts.BAY);
        Coasts.work(x, "pay 0 3;lamp rose 2;hand 1 2;dusk;pay 2 1;pay 2 99;");
        String before = Coasts.all(x);
        int first = 0;
        for (int i = 0; i < 2; i++) {
            int asked = x.best(0) + x.best(1) + x.soon() + x.left(60) + x.delay(0, 9999) + x.next() + x.grows(0) + x.matched() + x.look(0);
            asked += x.decade(3, 60, 0) + x.span(3, 20, 60, 0) + x.bids(0, 0, 20, 0) + x.chairs(1, 1) + x.gets(0, 0, 5, 1) + x.greatest();
            first = i == 0 ? asked : first;
            t.same("the same again", asked, first);
            t.same("nothing stays changed", Coasts.all(x), before);
            t.same("works, images, steps refused", x.count(2) * 100 + x.count(0) * 10 + x.told(8), 101);
        }
    }
}
