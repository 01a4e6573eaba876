/** Promises 16 to 20, 37 to 40: what would come, and decades of fog. */
public final class ForesightTest {
    private static final Coasts t = new Coasts("ForesightTest");

    public static void main(String[] args) {
        best();
        soonAndLeft();
        theLastDusk();
        delays();
        nextDebt();
        decades();
        spans();
        greatestAndBrightest();
        t.end();
    }

    private static void best() {
        DuskDebts x = Coasts.on("creditor 0 0;debt 0 gold 10 16 0;debt 0 gold 6 16 0;debt 0 gold 5 16 0;debt 0 rose 3 16 0;dusk 11 3 0 0;");
        t.same("two small ones of gold, and the rose one", x.best(1), 14);
        t.same("grows", x.best(0), 10);
        t.same("asked, nothing stays changed", x.told(5), 24);
        Coasts.law(x, "0");
        t.same("all alike: none", x.best(1), 0);
        Coasts.law(x, "3");
        t.same("the most debts", x.best(1), 14);
        DuskDebts alike = Coasts.on("creditor 0 0;debt 0 gold 4 8 0;debt 0 gold 4 8 0;debt 0 gold 4 8 0;dusk 8 0 0 0;");
        t.same("of alike ones the least bits", alike.best(1), 3);
        Coasts.work(alike, "end 0;");
        t.same("an ended one is not ended again", alike.best(1), 2);
        t.same("the other grows", alike.best(0), 2);
        DuskDebts lit = Coasts.on("creditor 0 0;debt 0 gold 44 8 0;lamp gold 44;");
        t.same("no light", lit.best(1), 0);
        Coasts.work(lit, "lamp gold 44;");
        t.same("a lamp's light", lit.best(1), 1);
        t.same("nothing grows", lit.best(0), 0);
    }

    private static void soonAndLeft() {
        DuskDebts x = Coasts.on("creditor 0 0;debt 0 grey 9 0 2;debt 0 grey 5 0 1;dusk 0 0 0 4;dusk 0 0 0 0;");
        t.same("soon", x.soon(), 6);
        t.same("behind none", x.left(0), 14);
        t.same("behind one", x.left(1), 10);
        t.same("behind seven", x.left(7), 0);
        t.same("behind six", x.left(6), 2);
        Coasts.work(x, "dusk;dusk;pay 0 4;");
        t.same("soon, as a dusk's number", x.soon(), 8);
        t.same("nothing stays changed", x.told(5), 10);
        DuskDebts paid = Coasts.on("creditor 0 0;dusk 1 1 1 1;");
        Coasts.work(paid, "dusk;dusk;");
        t.same("nothing owed: this one", paid.soon(), 2);
        DuskDebts slow = Coasts.on("creditor 0 0;debt 0 gold 61 0 0;dusk 1 0 0 0;");
        t.same("the last of the next 60", slow.soon(), 60);
        t.same("behind 60", slow.left(60), 1);
        DuskDebts slower = Coasts.on("creditor 0 0;debt 0 gold 62 0 0;dusk 1 0 0 0;");
        t.same("not of the next 60", slower.soon(), -1);
        DuskDebts byTerm = Coasts.on("creditor 0 0;debt 0 gold 3 16 5;debt 0 gold 3 0 4;debt 0 gold 3 16 4;dusk 4 0 0 0;");
        t.same("by term, then by number", byTerm.left(1), 3 + 3 + 2 + 2);
        DuskDebts byPaid = Coasts.on("creditor 0 0;debt 0 gold 9 0 0;dusk 4 0 0 0;");
        Coasts.law(byPaid, "paid");
        t.same("paid as by pay: it grows by what is paid", byPaid.left(1), 9);
        Coasts.work(byPaid, "pay 0 1;");
        t.same("and by what was paid", byPaid.left(1), 9);
    }

    private static DuskDebts onDusk(int dusk, String coast) {
        DuskDebts x = Coasts.on(coast);
        Coasts.work(x, "again 20[again 20[dusk;];];");
        for (int i = x.told(4); i < dusk; i++) {
            Coasts.work(x, "dusk;");
        }
        t.same("the test's dusk", x.told(4), dusk);
        return x;
    }

    private static void theLastDusk() {
        String slow = "creditor 0 0;debt 0 gold 99 0 60;debt 0 rose 7 16 60;dusk 9 0 4 0;fog 0;";
        DuskDebts last = onDusk(200, slow.replace(" 16 ", " 0 "));
        t.same("no dusk comes behind dusk 200", last.soon(), -1);
        t.same("behind none all is owed", last.left(0), 106);
        t.same("behind one dusk 200 has paid", last.left(1), 97);
        t.same("behind 60 no more is paid", last.left(60), 97);
        t.same("nor in a decade", last.decade(1, 4, 0), 97);
        t.same("paid once", last.decade(1, 60, 3), 9);
        t.same("nor in a span", last.span(1, 20, 60, 0) * 1000 + last.span(1, 20, 60, 1), 97097);
        t.same("nothing stays changed", last.told(4) * 1000 + last.told(5), 200106);

        DuskDebts near = onDusk(198, slow.replace(" 16 ", " 0 "));
        t.same("dusk 198 pays", near.left(1), 97);
        t.same("and dusk 199", near.left(2), 88);
        t.same("and dusk 200", near.left(3), 79);
        t.same("and none behind it", near.left(4), 79);
        t.same("so in a decade", near.decade(7, 9, 0), 79);
        t.same("paid in three", near.decade(7, 9, 3), 27);
        t.same("never all", near.soon(), -1);

        DuskDebts just = onDusk(198, "creditor 0 0;debt 0 gold 27 0 60;dusk 9 0 0 0;");
        t.same("all is paid in dusk 200", just.soon(), 200);

        DuskDebts grown = onDusk(199, "creditor 0 0;debt 0 gold 10 0 0;dusk 0 0 0 0;");
        Coasts.law(grown, "3");
        t.same("dusk 199 ends, and it grows", grown.left(1), 13);
        t.same("dusk 200 does not end", grown.left(2), 13);
        t.same("nor in a decade", grown.decade(0, 5, 0), 13);
        t.same("delay goes beyond dusk 200", grown.delay(0, 19), 3);
        Coasts.work(grown, "dusk;");
        t.same("also from dusk 200 on", grown.delay(0, 19), 2);
        t.same("what would grow, if it ended", grown.grows(0), 3);

        DuskDebts foggy = onDusk(200, "creditor 0 0;debt 0 gold 99 0 0;dusk 9 0 0 0;fog 16;");
        t.same("fog is drawn as often as asked", foggy.decade(3, 5, 2), 5);
        t.same("and the light is lost", foggy.decade(3, 5, 3), 0);
    }

    private static void delays() {
        DuskDebts x = Coasts.on("creditor 0 0;debt 0 gold 20 8 1;debt 0 gold 5 0 0;dusk 9 9 9 9;");
        t.same("twice", x.delay(0, 45), 2);
        t.same("not twice", x.delay(0, 44), 1);
        t.same("it is that", x.delay(0, 20), 0);
        t.same("it is more", x.delay(0, 19), -1);
        t.same("it does not grow", x.delay(1, 5), 60);
        Coasts.law(x, "paid*20+1");
        t.same("one a dusk", x.delay(1, 10), 5);
        Coasts.work(x, "pay 1 1;");
        t.same("paid in this dusk", x.delay(1, 24), 0);
        t.same("and not in the next", x.delay(1, 27), 3);
        Coasts.work(x, "end 1;");
        t.same("nothing is owed", x.delay(1, 0), 60);
        Coasts.law(x, "late*dusk");
        t.same("late", x.delay(0, 21), 2);
        t.same("late", x.delay(0, 22), 3);
        t.same("late", x.delay(0, 28), 4);
    }

    private static void nextDebt() {
        DuskDebts x = Coasts.on("creditor 0 0;debt 0 gold 3 0 5;debt 0 gold 3 0 4;debt 0 gold 3 0 4;dusk 9 9 9 9;");
        t.same("least term, first", x.next(), 1);
        Coasts.work(x, "end 1;");
        t.same("the next", x.next(), 2);
        Coasts.work(x, "end 2;");
        t.same("the last", x.next(), 0);
        Coasts.work(x, "end 0;");
        t.same("none", x.next(), -1);
    }

    private static void decades() {
        String coast = "creditor 0 0;debt 0 gold 30 0 2;dusk 4 0 0 0;";
        for (int fog = 0; fog <= 16; fog += 4) {
            DuskDebts x = Coasts.on(coast + "fog " + fog + ";");
            for (int seed = -3; seed < 4; seed++) {
                int drawn = seed;
                int fogs = 0;
                for (int i = 0; i < 7; i++) {
                    drawn = drawn * 1103515245 + 12345;
                    if (((drawn >> 16) & 0x7fff) % 16 < fog) {
                        fogs++;
                    }
                }
                t.same("fogs", x.decade(seed, 7, 2), fogs);
                t.same("paid", x.decade(seed, 7, 3), 4 * (7 - fogs));
                t.same("owed", x.decade(seed, 7, 0), 30 - 4 * (7 - fogs));
                t.same("in default", x.decade(seed, 7, 1), 1);
                t.same("not yet", x.decade(seed, 2, 1), 0);
            }
        }
        DuskDebts x = Coasts.on(coast + "lamp gold 10;fog 16;");
        Coasts.work(x, "lamp gold 9;dusk;lamp gold 1;");
        t.same("a lamp's light is lost in fog", x.decade(0, 1, 3), 0);
        t.same("nothing stays changed", x.told(4) * 100 + x.light(0, 0), 105);
        DuskDebts ended = Coasts.on("creditor 0 0;debt 0 gold 3 0 0;dusk 1 0 0 0;");
        Coasts.work(ended, "dusk;dusk;");
        t.same("in default already", ended.decade(5, 9, 1), 1);
        t.same("paid of what is left", ended.decade(5, 9, 3), 3);
    }

    private static void spans() {
        DuskDebts x = Coasts.on("creditor 0 0;debt 0 gold 30 1 4;debt 0 rose 8 2 6;dusk 9 3 0 0;dusk 8 0 1 1;fog 5;");
        for (int first : new int[] {-7, 0, 2147483640}) {
            for (int dusks : new int[] {1, 5, 12, 60}) {
                int least = 1 << 30;
                int most = 0;
                int clean = 0;
                for (int i = 0; i < 20; i++) {
                    least = Math.min(least, x.decade(first + i, dusks, 0));
                    most = Math.max(most, x.decade(first + i, dusks, 0));
                    clean += x.decade(first + i, dusks, 1) == 0 ? 1 : 0;
                }
                t.same("least", x.span(first, 20, dusks, 0), least);
                t.same("most", x.span(first, 20, dusks, 1), most);
                t.same("clean", x.span(first, 20, dusks, 2), clean);
            }
        }
        t.same("of one seed", x.span(3, 1, 7, 0), x.decade(3, 7, 0));
    }

    private static void greatestAndBrightest() {
        DuskDebts x = Coasts.on("creditor 0 0;creditor 1 1;creditor 2 2;debt 1 gold 5 0 0;debt 2 rose 4 0 0;debt 2 gold 1 0 0;"
            + "dusk 1 5 0 0;dusk 7 5 0 0;dusk 7 6 0 0;");
        t.same("of alike ones the first", x.greatest(), 1);
        Coasts.work(x, "pay 0 1;");
        t.same("of all colours", x.greatest(), 2);
        t.same("brightest", x.brightest(0), 1);
        t.same("brightest", x.brightest(1), 2);
        t.same("brightest where all are dark", x.brightest(2), 0);
    }
}
