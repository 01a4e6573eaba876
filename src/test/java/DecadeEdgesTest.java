/** The edges that promises 37 to 40 name, and what DECADE and DRAW say in part ==== 3., sentence by sentence. */
public final class DecadeEdgesTest {
    private static final Coasts t = new Coasts("DecadeEdgesTest");

    public static void main(String[] args) {
        draw();
        drawsOneByOne();
        fog();
        decade();
        paysAheadOfDusk();
        lastDusk();
        span();
        seedsWrap();
        greatest();
        brightest();
        t.end();
    }

    /** The document's words, with whole numbers that do not wrap by themselves. */
    private static long grown(long seed) {
        return Math.floorMod(seed * 1103515245L + 12345L, 4294967296L);
    }

    private static int drawn(long grown) {
        return (int) (grown / 65536 % 32768);
    }

    private static int fogs(int seed, int dusks, int q) {
        long now = Math.floorMod((long) seed, 4294967296L);
        int many = 0;
        for (int i = 0; i < dusks; i++) {
            now = grown(now);
            many += drawn(now) % 16 < q ? 1 : 0;
        }
        return many;
    }

    private static void draw() {
        t.says("DRAW by 16 below Q: fog");
        int[] seedOf = new int[16];
        for (int i = 0; i < 400; i++) {
            seedOf[drawn(grown(i)) % 16] = i;
        }
        for (int q = 0; q <= 16; q++) {
            DuskDebts x = Coasts.on("fog " + q + ";");
            for (int rest = 0; rest < 16; rest++) {
                t.same("a draw of " + rest + " with fog " + q, x.decade(seedOf[rest], 1, 2), rest < q ? 1 : 0);
            }
        }
        t.same("the draw of seed 0 is 0", Coasts.on("fog 1;").decade(0, 1, 2), 1);
    }

    private static void drawsOneByOne() {
        t.says("the SEED (32 bits) becomes itself times 1,103,515,245, and 12,345 (it wraps); its bits 16 to 30, what is left of them");
        DuskDebts[] by = new DuskDebts[17];
        for (int q = 0; q <= 16; q++) {
            by[q] = Coasts.on("fog " + q + ";");
        }
        for (int seed : new int[] {0, 1, -1, 2, 65535, 65536, -65536, 1 << 30, Integer.MAX_VALUE, Integer.MIN_VALUE, 123456789, -987654321}) {
            for (int q = 0; q <= 16; q++) {
                for (int dusks : new int[] {1, 2, 3, 17, 59, 60}) {
                    t.same(dusks + " draws of " + seed, by[q].decade(seed, dusks, 2), fogs(seed, dusks, q));
                }
            }
        }
    }

    private static void fog() {
        t.says("fog, what is left of its light is lost");
        String coast = "creditor 0 0;debt 0 gold 99 0 60;debt 0 rose 50 0 60;lamp gold 30;dusk 5 4 0 0;dusk 3 0 0 0;";
        DuskDebts foggy = Coasts.on(coast + "fog 16;");
        Coasts.work(foggy, "lamp gold 30;pay 0 2;");
        t.same("all of it, a lamp's too", foggy.decade(9, 60, 3), 0);
        t.same("fogs", foggy.decade(9, 60, 2), 60);
        t.same("owed", foggy.decade(9, 60, 0), 147);
        t.same("it is there as before", foggy.light(0, 0) * 10 + foggy.light(1, 0), 334);
        DuskDebts clear = Coasts.on(coast + "fog 0;");
        Coasts.work(clear, "lamp gold 30;pay 0 2;");
        t.same("this one's light is what is left", clear.decade(9, 1, 3), 37);
        t.same("the next one's is its own", clear.decade(9, 2, 3), 40);
        t.same("and the first's again, as told", clear.decade(9, 3, 3), 49);
        DuskDebts half = Coasts.on("creditor 0 0;debt 0 gold 99 0 60;dusk 1 0 0 0;fog 8;");
        for (int seed = 0; seed < 40; seed++) {
            t.same("light comes again behind a fog", half.decade(seed, 30, 3), 30 - fogs(seed, 30, 8));
        }
    }

    private static void decade() {
        t.says("A DECADE of so many DUSKS (1 to 60): 0 what is owed then, 1 DEBTS in DEFAULT, 2 fogs, 3 parts paid in it");
        DuskDebts x = Coasts.on("creditor 0 0;debt 0 gold 62 0 0;debt 0 rose 2 0 1;debt 0 grey 1 0 59;debt 0 grey 1 0 60;dusk 1 1 0 0;");
        t.same("behind one", x.decade(5, 1, 0), 64);
        t.same("in default behind one", x.decade(5, 1, 1), 1);
        t.same("paid in one", x.decade(5, 1, 3), 2);
        t.same("in time in two", x.decade(5, 2, 1), 1);
        t.same("behind 59", x.decade(5, 59, 0) * 10 + x.decade(5, 59, 1), 51);
        t.same("behind 60", x.decade(5, 60, 0) * 10 + x.decade(5, 60, 1), 42);
        t.same("paid in 60", x.decade(5, 60, 3), 62);
        t.refuses("of none", Coasts.WRONG, () -> x.decade(5, 0, 0));
        t.refuses("of -1", Coasts.WRONG, () -> x.decade(5, -1, 0));
        t.refuses("of 61", Coasts.WRONG, () -> x.decade(5, 61, 0));
        t.refuses("what 4", Coasts.WRONG, () -> x.decade(5, 1, 4));
        t.refuses("what -1", Coasts.WRONG, () -> x.decade(5, 1, -1));
        Coasts.work(x, "dusk;pay 0 1;pay 1 1;");
        t.same("in default already, and what was paid ahead is not paid in it", x.decade(5, 1, 1) * 100 + x.decade(5, 1, 3), 200);
        t.same("owed then", x.decade(5, 1, 0), 64);
        t.same("of a new object", new DuskDebts().decade(0, 60, 0) + new DuskDebts().decade(0, 60, 1) + new DuskDebts().decade(0, 60, 3), 0);
    }

    private static void paysAheadOfDusk() {
        t.says("then light is paid as by SOON; then dusk");
        DuskDebts x = Coasts.on("creditor 0 0;debt 0 gold 8 16 4;debt 0 gold 6 16 3;debt 0 gold 2 16 3;dusk 7 0 0 0;");
        t.same("by T, by number: 0, 1, 8; doubled", x.decade(1, 1, 0), 18);
        t.same("as left", x.decade(1, 1, 0), x.left(1));
        t.same("as left", x.decade(1, 60, 0), x.left(60));
        DuskDebts just = Coasts.on("creditor 0 0;debt 0 gold 7 16 0;dusk 7 0 0 0;");
        t.same("ended ahead of the dusk it is due by", just.decade(1, 3, 1) + just.decade(1, 3, 0), 0);
        DuskDebts byPaid = Coasts.on("creditor 0 0;debt 0 gold 9 0 0;dusk 4 0 0 0;");
        Coasts.law(byPaid, "paid");
        t.same("as pay: the law sees it", byPaid.decade(1, 1, 0), 9);
    }

    private static void lastDusk() {
        t.says("dusk (REFUSED on DUSK 200)");
        DuskDebts x = Coasts.on("creditor 0 0;debt 0 gold 99 0 60;dusk 9 0 0 0;fog 0;");
        Coasts.work(x, "again 9[again 20[dusk;];];");
        Coasts.work(x, "again 18[dusk;];");
        t.same("the test's own dusk", x.told(4), 198);
        t.same("198", x.decade(1, 1, 0), 90);
        t.same("199", x.decade(1, 2, 0), 81);
        t.same("200", x.decade(1, 3, 0), 72);
        t.same("no more light", x.decade(1, 4, 0), 72);
        t.same("no more is paid", x.decade(1, 60, 3), 27);
        t.same("so with many seeds", x.span(1, 20, 60, 0) * 100 + x.span(1, 20, 60, 1), 7272);
    }

    private static void span() {
        t.says("Of so many SEEDS (1 to 20; seed, seed and 1, ..): 0 the least owed then, 1 the most, 2 by how many no DEBT is in DEFAULT");
        DuskDebts x = Coasts.on("creditor 0 0;debt 0 gold 9 1 4;debt 0 rose 3 2 6;dusk 3 1 0 0;fog 6;");
        for (int many : new int[] {1, 2, 19, 20}) {
            int least = Integer.MAX_VALUE;
            int most = Integer.MIN_VALUE;
            int clean = 0;
            for (int seed = 100; seed < 100 + many; seed++) {
                int owed = x.decade(seed, 7, 0);
                least = Math.min(least, owed);
                most = Math.max(most, owed);
                clean += x.decade(seed, 7, 1) == 0 ? 1 : 0;
            }
            t.same("least of " + many, x.span(100, many, 7, 0), least);
            t.same("most of " + many, x.span(100, many, 7, 1), most);
            t.same("by how many of " + many, x.span(100, many, 7, 2), clean);
        }
        t.same("they differ", x.span(100, 20, 7, 1) > x.span(100, 20, 7, 0), true);
        t.same("some, not all", x.span(100, 20, 7, 2) > 0 && x.span(100, 20, 7, 2) < 20, true);
        t.refuses("of none", Coasts.WRONG, () -> x.span(100, 0, 7, 0));
        t.refuses("of -1", Coasts.WRONG, () -> x.span(100, -1, 7, 0));
        t.refuses("of 21", Coasts.WRONG, () -> x.span(100, 21, 7, 0));
        t.refuses("of no dusks", Coasts.WRONG, () -> x.span(100, 1, 0, 0));
        t.refuses("of 61 dusks", Coasts.WRONG, () -> x.span(100, 1, 61, 0));
        t.refuses("what 3", Coasts.WRONG, () -> x.span(100, 1, 1, 3));
        t.refuses("what -1", Coasts.WRONG, () -> x.span(100, 1, 1, -1));
        t.same("60 dusks", x.span(100, 1, 60, 0), x.decade(100, 60, 0));
        t.same("one dusk", x.span(100, 1, 1, 1), x.decade(100, 1, 0));
        DuskDebts none = new DuskDebts();
        t.same("of a new object", none.span(0, 20, 60, 0) + none.span(0, 20, 60, 1), 0);
        t.same("no debt is in default", none.span(0, 20, 60, 2), 20);
    }

    private static void seedsWrap() {
        t.says("the SEED (32 bits)");
        DuskDebts x = Coasts.on("creditor 0 0;debt 0 gold 99 0 60;dusk 1 0 0 0;fog 8;");
        for (int first : new int[] {Integer.MAX_VALUE, Integer.MAX_VALUE - 10, -10, Integer.MIN_VALUE}) {
            int least = 100;
            int most = 0;
            for (int i = 0; i < 20; i++) {
                least = Math.min(least, 99 - 20 + fogs(first + i, 20, 8));
                most = Math.max(most, 99 - 20 + fogs(first + i, 20, 8));
            }
            t.same("least from " + first, x.span(first, 20, 20, 0), least);
            t.same("most from " + first, x.span(first, 20, 20, 1), most);
        }
    }

    private static void greatest() {
        t.says("The CREDITOR to whom most is owed (of all COLOURS), of these the first; NONE: nothing is");
        t.same("of a new object", new DuskDebts().greatest(), -1);
        t.same("without debts", Coasts.on("creditor 0 0;creditor 1 1;").greatest(), -1);
        DuskDebts x = Coasts.on("creditor 0 0;creditor 1 1;creditor 2 2;debt 1 gold 3 0 9;debt 1 grey 4 0 9;debt 2 rose 7 0 9;debt 0 gold 6 0 9;dusk 20 20 20 20;");
        t.same("of alike ones the first", x.greatest(), 1);
        Coasts.work(x, "hand 3 2;");
        t.same("to whom it is owed now", x.greatest(), 2);
        Coasts.work(x, "end 2;");
        t.same("what is owed now", x.greatest(), 1);
        Coasts.work(x, "end 0;pay 1 3;");
        t.same("and now", x.greatest(), 2);
        Coasts.work(x, "end 3;");
        t.same("one part", x.greatest(), 1);
        Coasts.work(x, "end 1;");
        t.same("nothing is", x.greatest(), -1);
    }

    private static void brightest() {
        t.says("The DUSK (0 to DUSKS less 1) with most light of a COLOUR, of these the first; NONE: there are none");
        DuskDebts none = Coasts.on("creditor 0 0;");
        DuskDebts x = Coasts.on("dusk 0 1 40 0;" + "dusk 0 0 40 0;".repeat(10) + "dusk 0 2 40 1;");
        for (int k = 0; k < 4; k++) {
            t.same("without dusks", none.brightest(k), -1);
        }
        t.same("all dark: the first", x.brightest(0), 0);
        t.same("the last of twelve", x.brightest(1), 11);
        t.same("of alike ones the first", x.brightest(2), 0);
        t.same("the only one", x.brightest(3), 11);
        Coasts.work(x, "dusk;dusk;");
        t.same("as told, whatever the dusk", x.brightest(2), 0);
        for (int colour : new int[] {-1, 4, Integer.MIN_VALUE, Integer.MAX_VALUE}) {
            t.refuses("of colour " + colour, Coasts.WRONG, () -> x.brightest(colour));
            t.refuses("of colour " + colour, Coasts.WRONG, () -> none.brightest(colour));
        }
    }
}
