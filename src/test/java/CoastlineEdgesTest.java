/** The edges that promises 21 to 26 name, and what MATCHED, SEES and CHAIRS say in part ==== 3., sentence by sentence. */
public final class CoastlineEdgesTest {
    private static final Coasts t = new Coasts("CoastlineEdgesTest");

    public static void main(String[] args) {
        choices();
        matched();
        matchedByHand();
        noWedding();
        sees();
        seesByHand();
        eyes();
        chairs();
        chairsByHand();
        chairsRefused();
        t.end();
    }

    // ---- weddings ----

    private static void choices() {
        t.says("In how many DUSKS from 0 to T a WEDDING could be; in which there are N parts of K or more");
        for (int parts : new int[] {1, 5, 39, 40}) {
            DuskDebts x = Coasts.on("dusk 0 0 " + parts + " 0;dusk 40 40 " + (parts - 1) + " 40;"
                + "wedding green " + parts + " 0;wedding green " + parts + " 1;wedding green " + parts + " 2;wedding green " + parts + " 60;"
                + "wedding green 1 59;wedding gold " + parts + " 60;");
            t.same("in 0 to 0", x.choices(0), 1);
            t.same("in 0 to 1", x.choices(1), 1);
            t.same("in 0 to 2", x.choices(2), 2);
            t.same("in 0 to 60", x.choices(3), 31);
            t.same("in 0 to 59", x.choices(4), parts == 1 ? 30 : 60);
            t.same("of another colour", x.choices(5), 30);
        }
        DuskDebts none = Coasts.on("lamp gold 99;wedding gold 1 60;");
        t.same("no dusks, no light", none.choices(0), 0);
        t.same("none", none.weds(0), -1);
        t.same("none of one", none.matched(), 0);
        t.same("all of 61", Coasts.on("dusk 40 0 0 0;wedding gold 40 60;").choices(0), 61);
    }

    private static void weds(String coast, int... days) {
        DuskDebts x = Coasts.on(coast);
        int matched = 0;
        for (int w = 0; w < days.length; w++) {
            t.same("wedding " + w + " of " + coast, x.weds(w), days[w]);
            matched += days[w] >= 0 ? 1 : 0;
        }
        t.same("matched of " + coast, x.matched(), matched);
    }

    private static void matched() {
        t.says("WEDDINGS, each a DUSK of its own (of those from 0 to T, as told, not of what is left)");
        String one = "dusk 1 0 0 0;";
        weds(one + "wedding gold 1 0;", 0);
        weds(one + "wedding gold 1 0;wedding gold 1 0;", 0, -1);
        weds(one + "wedding gold 1 60;".repeat(6), 0, 1, 2, 3, 4, 5);
        weds(one + "dusk 0 0 0 0;".repeat(11) + "wedding gold 1 60;".repeat(6), 0, 12, 24, 36, 48, -1 + 61);
        weds(one + "dusk 0 0 0 0;".repeat(11) + "wedding gold 1 59;".repeat(6), 0, 12, 24, 36, 48, -1);
        DuskDebts x = Coasts.on("creditor 0 0;debt 0 gold 9 0 9;dusk 9 0 0 0;wedding gold 9 5;");
        Coasts.work(x, "pay 0 9;");
        t.same("not of what is left", x.weds(0) + x.choices(0), 6);
        Coasts.work(x, "again 9[dusk;];");
        t.same("whatever the dusk", x.weds(0) * 10 + x.matched(), 1);

        t.says("as many as can be; the first way (WEDDING by WEDDING the least DUSK, none behind all)");
        weds(one + "wedding gold 1 1;wedding gold 1 0;", 1, 0);
        weds(one + "wedding gold 1 2;wedding gold 1 1;wedding gold 1 0;", 2, 1, 0);
        weds(one + "wedding gold 1 1;wedding gold 1 2;wedding gold 1 0;", 1, 2, 0);
        weds(one + "wedding gold 1 1;wedding gold 1 1;wedding gold 1 1;", 0, 1, -1);
        weds(one + "wedding gold 1 0;wedding gold 1 60;wedding gold 1 0;", 0, 1, -1);
        weds(one + "wedding gold 2 9;wedding gold 1 9;wedding gold 2 9;", -1, 0, -1);
        weds("dusk 1 0 0 0;dusk 0 1 0 0;wedding gold 1 2;wedding rose 1 1;wedding gold 1 0;wedding rose 1 9;", 2, 1, 0, 3);
        weds("dusk 3 3 0 0;dusk 1 1 0 0;wedding gold 1 1;wedding rose 3 1;wedding gold 3 1;", 1, 0, -1);
        weds("dusk 3 3 0 0;dusk 1 1 0 0;wedding rose 3 1;wedding gold 1 0;wedding gold 1 1;", 0, -1, 1);
        weds("wedding gold 1 60;".repeat(6), -1, -1, -1, -1, -1, -1);
        weds("");
    }

    private static int bestMany;
    private static int[] bestDays;

    /** All ways, the first of the longest: days by rising numbers, none last. */
    private static void walk(DuskDebts x, int[][] wants, int w, int[] days) {
        if (w == wants.length) {
            int many = 0;
            for (int day : days) {
                many += day >= 0 ? 1 : 0;
            }
            if (many > bestMany) {
                bestMany = many;
                bestDays = days.clone();
            }
            return;
        }
        for (int day = 0; day <= wants[w][2] + 1; day++) {
            boolean none = day > wants[w][2];
            boolean free = none || x.dusk(day, wants[w][0]) >= wants[w][1];
            for (int v = 0; v < w; v++) {
                free &= none || days[v] != day;
            }
            if (free) {
                days[w] = none ? -1 : day;
                walk(x, wants, w + 1, days);
            }
        }
    }

    private static void matchedByHand() {
        t.says("as many as can be; the first way (WEDDING by WEDDING the least DUSK, none behind all)");
        String[] names = {"gold", "rose", "green", "grey"};
        java.util.Random random = new java.util.Random(21);
        for (int i = 0; i < 60; i++) {
            StringBuilder coast = new StringBuilder("dusk 3 0 1 2;dusk 1 2 0 3;dusk 0 1 3 0;");
            int[][] wants = new int[1 + random.nextInt(5)][];
            for (int w = 0; w < wants.length; w++) {
                wants[w] = new int[] {random.nextInt(4), 1 + random.nextInt(3), random.nextInt(5)};
                coast.append("wedding ").append(names[wants[w][0]]).append(' ').append(wants[w][1]).append(' ').append(wants[w][2]).append(';');
            }
            bestMany = -1;
            walk(Coasts.on(coast.toString()), wants, 0, new int[wants.length]);
            weds(coast.toString(), bestDays);
        }
    }

    private static void noWedding() {
        t.says("The DUSK of a WEDDING; NONE: none. NoSuchElementException: no such WEDDING");
        DuskDebts x = Coasts.on("dusk 1 0 0 0;wedding gold 1 1;wedding gold 1 1;");
        for (int w : new int[] {-1, 2, 6, Integer.MIN_VALUE, Integer.MAX_VALUE}) {
            t.refuses("weds " + w, Coasts.NO_SUCH, () -> x.weds(w));
            t.refuses("choices " + w, Coasts.NO_SUCH, () -> x.choices(w));
        }
        t.same("the last", x.weds(1) * 10 + x.choices(1), 12);
        Coasts.coast(x, "dusk 1 0 0 0;");
        t.refuses("of another coast", Coasts.NO_SUCH, () -> x.weds(0));
        t.same("matched of none", x.matched(), 0);
    }

    // ---- the sea ----

    private static void sees() {
        t.says("the sea left of CELL 0 (height 0, at CELL -1): no ridge between is as high as or above the straight line (exactly)");
        String[] seers = {"creditor 0 0;", "creditor 1 1;", "creditor 19 1;", "creditor 1 0;ridge 1 1;", "creditor 2 0;ridge 2 20;ridge 0 6;ridge 1 13;",
            "creditor 5 4;ridge 5 3;ridge 0 1;", "creditor 2 5;ridge 0 1;ridge 1 3;", "creditor 0 0;ridge 0 20;ridge 1 20;", "creditor 3 4;ridge 4 20;ridge 19 20;"};
        for (String coast : seers) {
            t.same(coast, Coasts.on(coast).sees(0), true);
        }
        String[] blind = {"creditor 1 0;", "creditor 19 0;", "creditor 1 2;ridge 0 1;", "creditor 1 1;ridge 0 1;", "creditor 2 3;ridge 0 1;", "creditor 2 3;ridge 1 2;",
            "creditor 2 4;ridge 1 3;", "creditor 5 3;ridge 5 3;ridge 0 1;", "creditor 2 0;ridge 2 20;ridge 0 7;", "creditor 2 0;ridge 2 20;ridge 1 14;",
            "creditor 19 20;ridge 19 20;ridge 18 20;ridge 17 20;ridge 0 2;"};
        for (String coast : blind) {
            t.same(coast, Coasts.on(coast).sees(0), false);
        }
        DuskDebts x = Coasts.on("creditor 0 0;creditor 1 0;creditor 1 1;");
        t.same("one by one", x.sees(0), true);
        t.same("one by one", x.sees(1), false);
        t.same("one by one", x.sees(2), true);
        t.refuses("no such creditor", Coasts.NO_SUCH, () -> x.sees(3) ? 1 : 0);
        t.refuses("no such creditor", Coasts.NO_SUCH, () -> x.sees(-1) ? 1 : 0);
    }

    private static void seesByHand() {
        t.says("the straight line (exactly)");
        int[] ridges = {1, 0, 4, 2, 9, 3, 0, 12, 20, 5, 0, 0, 7, 18, 3, 1, 20, 2, 6, 15};
        StringBuilder coast = new StringBuilder();
        for (int x = 0; x < 20; x++) {
            coast.append("ridge ").append(x).append(' ').append(ridges[x]).append(';');
        }
        DuskDebts all = Coasts.on(coast.toString());
        for (int x = 0; x < 20; x++) {
            int least = -1;
            for (int eyes = 99; eyes >= 0; eyes--) {
                boolean sees = true;
                for (int z = 0; z < x; z++) {
                    double line = (double) (eyes + ridges[x]) * (z + 1) / (x + 1);
                    sees &= ridges[z] < line - 1e-9;
                }
                least = sees ? eyes : least;
                if (eyes <= 20) {
                    t.same("from " + x + ", eyes " + eyes, Coasts.on("creditor " + x + " " + eyes + ";" + coast).sees(0), sees);
                }
            }
            t.same("eyes of " + x, all.eyes(x), least);
        }
    }

    private static void eyes() {
        t.says("The least height of eyes (0 to 99) by which one in a CELL SEES; NONE");
        DuskDebts flat = new DuskDebts();
        t.same("cell 0", flat.eyes(0), 0);
        for (int cell = 1; cell < 20; cell++) {
            t.same("cell " + cell, flat.eyes(cell), 1);
            t.same("on a ridge", Coasts.on("ridge " + cell + " 1;").eyes(cell), 0);
        }
        t.same("101 above 0, less 1: more than 99", Coasts.on("ridge 0 20;ridge 4 1;").eyes(4), -1);
        t.same("101 above 0, less 2", Coasts.on("ridge 0 20;ridge 4 2;").eyes(4), 99);
        t.same("101 above 0, less 3", Coasts.on("ridge 0 20;ridge 4 3;").eyes(4), 98);
        t.same("far too high", Coasts.on("ridge 0 20;").eyes(19), -1);
        t.says("IllegalArgumentException: not 0 to 19");
        t.refuses("cell -1", Coasts.WRONG, () -> flat.eyes(-1));
        t.refuses("cell 20", Coasts.WRONG, () -> flat.eyes(20));
        t.refuses("the least whole number", Coasts.WRONG, () -> flat.eyes(Integer.MIN_VALUE));
        t.refuses("the greatest", Coasts.WRONG, () -> flat.eyes(Integer.MAX_VALUE));
    }

    // ---- chairs ----

    private static void sits(String coast, int d, int many, int bits) {
        DuskDebts x = Coasts.on(coast);
        t.same("chairs by " + d + " of " + coast, x.chairs(d, 0), many);
        t.same("cells by " + d + " of " + coast, x.chairs(d, 1), bits);
    }

    private static void chairs() {
        t.says("the fewest CELLS in which chairs stand so that each CREDITOR has one at most d CELLS away");
        sits("", 0, 0, 0);
        sits("", 19, 0, 0);
        sits("creditor 0 0;", 0, 1, 1);
        sits("creditor 19 0;", 0, 1, 1 << 19);
        sits("creditor 7 0;creditor 7 9;creditor 7 3;", 0, 1, 1 << 7);
        sits("creditor 0 0;creditor 2 0;", 0, 2, 5);
        sits("creditor 0 0;creditor 2 0;", 1, 1, 2);
        sits("creditor 0 0;creditor 3 0;", 1, 2, 1 | 1 << 2);
        sits("creditor 0 0;creditor 19 0;", 18, 1, 2);
        sits("creditor 0 0;creditor 19 0;", 19, 1, 1);
        sits("creditor 19 0;creditor 0 0;", 9, 2, 1 | 1 << 10);
        sits("creditor 0 0;creditor 1 0;creditor 5 0;creditor 9 0;creditor 14 0;creditor 19 0;", 0, 6, 1 | 2 | 1 << 5 | 1 << 9 | 1 << 14 | 1 << 19);

        t.says("the first (CELL by CELL, rising)");
        sits("creditor 5 0;", 3, 1, 1 << 2);
        sits("creditor 5 0;", 5, 1, 1);
        sits("creditor 5 0;", 6, 1, 1);
        sits("creditor 5 0;creditor 7 0;", 3, 1, 1 << 4);
        sits("creditor 5 0;creditor 7 0;creditor 18 0;", 3, 2, 1 << 4 | 1 << 15);
        sits("creditor 4 0;creditor 8 0;creditor 10 0;", 2, 2, 1 << 2 | 1 << 8);
    }

    private static void chairsByHand() {
        t.says("the fewest CELLS ..; the first (CELL by CELL, rising)");
        int[][] seats = {{0}, {19}, {3, 4, 11}, {0, 6, 7, 13, 19}, {1, 4, 7, 10, 13, 16}, {2, 2, 9, 9, 17, 18}, {0, 5, 10, 15, 19, 12}, {8, 9, 10, 11, 12, 13}};
        for (int[] seat : seats) {
            StringBuilder coast = new StringBuilder();
            for (int s : seat) {
                coast.append("creditor ").append(s).append(" 0;");
            }
            for (int d = 0; d < 20; d++) {
                int best = -1;
                for (int bits = 1; bits < 1 << 20; bits++) {
                    int many = Integer.bitCount(bits);
                    // Of sets of alike size the first has the lowest cell in which they differ.
                    boolean ahead = best < 0 || many < Integer.bitCount(best)
                        || many == Integer.bitCount(best) && (bits & Integer.lowestOneBit(bits ^ best)) != 0;
                    if (ahead && many <= seat.length && reaches(bits, seat, d)) {
                        best = bits;
                    }
                }
                sits(coast.toString(), d, Integer.bitCount(best), best);
            }
        }
    }

    private static boolean reaches(int bits, int[] seat, int d) {
        for (int s : seat) {
            boolean near = false;
            for (int x = Math.max(0, s - d); x <= Math.min(19, s + d); x++) {
                near |= (bits >> x & 1) == 1;
            }
            if (!near) {
                return false;
            }
        }
        return true;
    }

    private static void chairsRefused() {
        t.says("CHAIRS by d (0 to 19): 0 how many, 1 their CELLS (bits)");
        DuskDebts x = Coasts.on("creditor 4 4;");
        for (int d : new int[] {-1, 20, Integer.MIN_VALUE, Integer.MAX_VALUE}) {
            t.refuses("by " + d, Coasts.WRONG, () -> x.chairs(d, 0));
        }
        for (int what : new int[] {-1, 2, Integer.MIN_VALUE, Integer.MAX_VALUE}) {
            t.refuses("what " + what, Coasts.WRONG, () -> x.chairs(0, what));
        }
        t.same("each is counted", x.status(1), 8);
    }
}
