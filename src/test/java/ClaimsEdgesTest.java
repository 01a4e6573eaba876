/** The edges that promises 27 to 36 name, and what CLAIMS to RESTS say in part ==== 3., sentence by sentence. */
public final class ClaimsEdgesTest {
    private static final Coasts t = new Coasts("ClaimsEdgesTest");

    public static void main(String[] args) {
        byParts();
        levelled();
        claimsByHand();
        owes();
        net();
        struck();
        moved();
        look();
        lookNone();
        settle();
        settleFog();
        settleByHand();
        now();
        has();
        bids();
        bidsAtTheEdges();
        t.end();
    }

    // ---- claims ----

    private static void gets(DuskDebts x, int colour, int n, int how, int... due) {
        for (int c = 0; c < due.length; c++) {
            t.same("creditor " + c + " gets of " + n + " by " + how, x.gets(c, colour, n, how), due[c]);
        }
    }

    private static void byParts() {
        t.says("each CREDITOR claims what is owed to him of it: by parts (cut)");
        DuskDebts x = Coasts.on("creditor 0 0;creditor 1 1;creditor 2 2;debt 0 gold 1 0 9;debt 1 gold 2 0 9;debt 1 gold 4 0 9;debt 2 grey 99 0 9;dusk 40 0 0 40;");
        gets(x, 0, 0, 0, 0, 0, 0);
        gets(x, 0, 1, 0, 0, 0, 0);
        gets(x, 0, 2, 0, 0, 1, 0);
        gets(x, 0, 6, 0, 0, 5, 0);
        gets(x, 0, 7, 0, 1, 6, 0);
        gets(x, 0, 8, 0, 1, 6, 0);
        gets(x, 0, 999, 0, 1, 6, 0);
        gets(x, 3, 50, 0, 0, 0, 50);
        gets(x, 3, 999, 0, 0, 0, 99);
        gets(x, 1, 999, 0, 0, 0, 0);
        Coasts.work(x, "hand 3 0;end 0;");
        gets(x, 0, 6, 0, 0, 6, 0);
        gets(x, 3, 9, 0, 9, 0, 0);
        DuskDebts most = Coasts.on("creditor 0 0;creditor 1 1;" + "debt 0 gold 99 0 0;".repeat(9) + "debt 1 gold 99 0 0;");
        Coasts.law(most, "99");
        Coasts.work(most, "again 6[again 20[dusk;];];");
        t.same("the test's own debts", most.told(5), 99990);
        gets(most, 0, 999, 0, 899, 99);
        gets(most, 0, 999, 1, 499, 499);
        gets(most, 0, 998, 1, 499, 499);
        gets(most, 0, 10, 0, 9, 1);
        gets(most, 0, 9, 0, 8, 0);
    }

    private static void levelled() {
        t.says("or levelled: as much as he claims, but no more than a bound, the greatest by which no more than N is given");
        DuskDebts x = Coasts.on("creditor 0 0;creditor 1 1;creditor 2 2;creditor 3 3;debt 0 rose 5 0 9;debt 1 rose 10 0 9;debt 2 rose 99 0 9;debt 3 gold 9 0 9;");
        gets(x, 1, 0, 1, 0, 0, 0, 0);
        gets(x, 1, 2, 1, 0, 0, 0, 0);
        gets(x, 1, 3, 1, 1, 1, 1, 0);
        gets(x, 1, 15, 1, 5, 5, 5, 0);
        gets(x, 1, 16, 1, 5, 5, 5, 0);
        gets(x, 1, 17, 1, 5, 6, 6, 0);
        gets(x, 1, 25, 1, 5, 10, 10, 0);
        gets(x, 1, 26, 1, 5, 10, 11, 0);
        gets(x, 1, 113, 1, 5, 10, 98, 0);
        gets(x, 1, 114, 1, 5, 10, 99, 0);
        gets(x, 1, 999, 1, 5, 10, 99, 0);
        gets(x, 0, 8, 1, 0, 0, 0, 8);
        gets(x, 2, 999, 1, 0, 0, 0, 0);

        t.says("N (0 to 999) parts of a COLOUR: by parts (how 0), levelled (1)");
        t.refuses("n -1", Coasts.WRONG, () -> x.gets(0, 0, -1, 0));
        t.refuses("n 1000", Coasts.WRONG, () -> x.gets(0, 0, 1000, 1));
        t.refuses("colour 4", Coasts.WRONG, () -> x.gets(0, 4, 0, 0));
        t.refuses("colour -1", Coasts.WRONG, () -> x.gets(0, -1, 0, 0));
        t.refuses("how 2", Coasts.WRONG, () -> x.gets(0, 0, 0, 2));
        t.refuses("how -1", Coasts.WRONG, () -> x.gets(0, 0, 0, -1));
        t.refuses("no such creditor", Coasts.NO_SUCH, () -> x.gets(4, 0, 0, 0));
        t.refuses("no such creditor", Coasts.NO_SUCH, () -> x.gets(-1, 0, 0, 0));
    }

    private static void claimsByHand() {
        t.says("the greatest by which no more than N is given; (cut)");
        int[] claims = {7, 0, 13, 40, 1, 40};
        StringBuilder coast = new StringBuilder("creditor 0 0;".repeat(6));
        for (int c = 0; c < 6; c++) {
            coast.append(claims[c] > 0 ? "debt " + c + " green " + claims[c] + " 0 9;" : "");
        }
        DuskDebts x = Coasts.on(coast.toString());
        for (int n = 0; n <= 103; n += n > 90 ? 1 : 4) {
            int bound = 0;
            for (int b = 0; b <= 999; b++) {
                int given = 0;
                for (int claim : claims) {
                    given += Math.min(b, claim);
                }
                bound = given <= n ? b : bound;
            }
            for (int c = 0; c < 6; c++) {
                t.same("levelled, of " + n, x.gets(c, 2, n, 1), Math.min(bound, claims[c]));
                t.same("by parts, of " + n, x.gets(c, 2, n, 0), Math.min(n, 101) * claims[c] / 101);
            }
        }
    }

    // ---- rings ----

    private static void owes() {
        t.says("What one owes the other one");
        DuskDebts x = Coasts.on("creditor 0 0;".repeat(6) + "owes 0 5 1;owes 5 0 99;owes 5 4 3;");
        t.same("one", x.owes(0, 5), 1);
        t.same("the other way", x.owes(5, 0), 99);
        t.same("the last ones", x.owes(5, 4) * 10 + x.owes(4, 5), 30);
        t.same("nothing", x.owes(1, 2), 0);
        t.same("himself", x.owes(5, 5), 0);
        t.refuses("no such creditor", Coasts.NO_SUCH, () -> x.owes(6, 0));
        t.refuses("no such creditor", Coasts.NO_SUCH, () -> x.owes(0, 6));
        t.refuses("no such creditor", Coasts.NO_SUCH, () -> x.owes(-1, 0));
        t.refuses("no such creditor", Coasts.NO_SUCH, () -> x.owes(0, -1));
        t.refuses("one call, one refusal", Coasts.NO_SUCH, () -> x.owes(6, 6));
        t.same("counted", x.status(0), 5);
    }

    private static void net() {
        t.says("NET of a CREDITOR: what is owed to him by others less what he owes them");
        DuskDebts x = Coasts.on("creditor 0 0;creditor 1 1;creditor 2 2;creditor 3 3;owes 0 1 5;owes 1 0 7;owes 2 0 1;owes 0 2 9;debt 0 gold 50 0 0;");
        t.same("of the first", x.net(0), 7 + 1 - 5 - 9);
        t.same("of the second", x.net(1), 5 - 7);
        t.same("of the third", x.net(2), 9 - 1);
        t.same("of one without", x.net(3), 0);
        t.refuses("no such creditor", Coasts.NO_SUCH, () -> x.net(4));
        t.refuses("no such creditor", Coasts.NO_SUCH, () -> x.net(-1));
        String most = "creditor 0 0;".repeat(6) + "owes 1 0 99;".repeat(11) + "owes 2 0 99;".repeat(11) + "owes 3 0 99;".repeat(11);
        t.same("999 each", Coasts.on(most).net(0) * 10000 + Coasts.on(most).net(3), 2997 * 10000 - 999);
    }

    private static void struck(String owes, int sum, int less) {
        DuskDebts x = Coasts.on("creditor 0 0;".repeat(6) + owes);
        t.same("struck(0) of " + owes, x.struck(0), sum);
        t.same("struck(1) of " + owes, x.struck(1), less);
    }

    private static void struck() {
        t.says("the least sum that must change hands so that all are even; how much less it is than all that is owed among them");
        struck("", 0, 0);
        struck("owes 0 5 7;", 7, 0);
        struck("owes 0 5 7;owes 5 0 7;", 0, 14);
        struck("owes 0 5 7;owes 5 0 8;", 1, 14);
        struck("owes 0 1 5;owes 1 2 5;owes 2 0 5;", 0, 15);
        struck("owes 0 1 5;owes 1 2 5;owes 2 3 5;", 5, 10);
        struck("owes 0 1 5;owes 2 3 6;owes 4 5 7;", 18, 0);
        struck("owes 0 1 5;owes 0 2 6;owes 0 3 7;", 18, 0);
        struck("owes 1 0 5;owes 2 0 6;owes 3 0 7;owes 0 4 20;", 20, 18);
        DuskDebts x = new DuskDebts();
        t.refuses("what 2", Coasts.WRONG, () -> x.struck(2));
        t.refuses("what -1", Coasts.WRONG, () -> x.struck(-1));
    }

    // ---- moved, look ----

    private static void moved(String dusks, String book, int bits) {
        DuskDebts x = Coasts.on(dusks);
        Coasts.book(x, book);
        t.same("moved of " + dusks + " by " + book, x.moved(), bits);
    }

    private static void moved() {
        t.says("numbers s (0 to DUSKS less 1) by which the BOOK is right in all lines, were DUSK E that of E and s as told; (0: there are no DUSKS)");
        moved("", "", 0);
        moved("", "0 gold 0;", 0);
        moved("dusk 1 0 0 0;", "", 1);
        moved("dusk 1 0 0 0;", "60 gold 1;", 1);
        moved("dusk 1 0 0 0;", "60 gold 0;", 0);
        moved("dusk 1 0 0 0;".repeat(12), "", 4095);
        String dark = "dusk 0 0 0 0;".repeat(11);
        moved(dark + "dusk 0 0 40 0;", "0 green 40;", 2048);
        moved(dark + "dusk 0 0 40 0;", "11 green 40;", 1);
        moved(dark + "dusk 0 0 40 0;", "12 green 40;", 2048);
        moved(dark + "dusk 0 0 40 0;", "1 green 40;", 1024);
        moved(dark + "dusk 0 0 40 0;", "60 green 40;", 2048);
        moved(dark + "dusk 0 0 40 0;", "59 green 40;", 1);
        moved(dark + "dusk 0 0 40 0;", "0 green 0;", 2047);
        moved(dark + "dusk 0 0 40 0;", "0 green 39;", 0);
        moved("dusk 1 2 0 0;dusk 1 3 0 0;dusk 2 2 0 0;", "0 gold 1;", 3);
        moved("dusk 1 2 0 0;dusk 1 3 0 0;dusk 2 2 0 0;", "0 gold 1;0 rose 2;", 1);
        moved("dusk 1 2 0 0;dusk 1 3 0 0;dusk 2 2 0 0;", "0 gold 1;0 gold 1;", 3);
        moved("dusk 1 2 0 0;dusk 1 3 0 0;dusk 2 2 0 0;", "0 gold 1;0 gold 2;", 0);
        moved("dusk 1 2 0 0;dusk 1 3 0 0;dusk 2 2 0 0;", "0 gold 1;2 gold 1;", 2);
        DuskDebts x = Coasts.on("dusk 1 2 0 0;dusk 5 3 0 0;");
        Coasts.book(x, "0 gold 5;");
        Coasts.work(x, "dusk;");
        t.same("as told, whatever the dusk", x.moved(), 2);
    }

    private static void look(String dusks, String book, int dusk, int colour, int worst) {
        DuskDebts x = Coasts.on(dusks);
        Coasts.book(x, book);
        t.same("look(0) of " + dusks + " by " + book, x.look(0), dusk);
        t.same("look(1) of " + dusks + " by " + book, x.look(1), colour);
        t.same("look(2) of " + dusks + " by " + book, x.look(2), worst);
    }

    private static void look() {
        t.says("of the COLOURS of DUSKS from 0 to DUSKS less 1 that are in no line the one by which, whatever it is, fewest of these are left at the worst");
        look("dusk 0 1 0 0;dusk 0 1 0 0;dusk 0 2 0 9;dusk 0 2 0 3;", "", 0, 1, 2);
        look("dusk 0 0 0 1;dusk 0 0 0 2;dusk 0 0 0 3;dusk 0 0 0 4;", "", 0, 3, 1);
        look("dusk 0 0 1 1;dusk 0 0 1 2;dusk 0 0 2 3;dusk 0 0 2 4;", "", 0, 3, 1);
        look("dusk 1 0 0 0;dusk 0 0 0 0;dusk 0 0 0 0;dusk 0 0 0 0;", "", 0, 0, 3);
        look("dusk 7 1 0 0;dusk 7 2 0 0;dusk 8 1 0 0;dusk 8 1 0 0;", "0 gold 7;", 0, 1, 1);
        look("dusk 7 1 0 0;dusk 7 1 0 0;dusk 8 2 0 0;dusk 8 1 0 0;", "0 gold 7;", 1, 0, 1);
        look("dusk 7 1 0 0;dusk 7 1 0 0;dusk 8 1 0 0;dusk 9 2 0 0;", "0 gold 7;1 gold 8;", 0, 1, 1);

        t.says("(DUSK by DUSK, COLOUR by COLOUR) .., of these the first");
        look("dusk 4 4 4 4;", "", 0, 0, 1);
        look("dusk 4 4 4 4;", "0 gold 4;", 0, 1, 1);
        look("dusk 4 4 4 4;", "0 gold 4;0 rose 4;0 green 4;", 0, 3, 1);
        look("dusk 4 4 4 4;dusk 4 4 4 4;", "0 gold 4;0 rose 4;0 green 4;0 grey 4;", 1, 0, 2);
        look("dusk 1 1 0 0;dusk 2 2 0 0;", "", 0, 0, 1);
        look("dusk 0 1 0 0;dusk 0 2 0 0;", "", 0, 1, 1);
        look("dusk 0 1 0 0;dusk 0 2 0 0;", "0 rose 1;", 0, 0, 1);
        look("dusk 0 1 0 0;dusk 0 2 0 0;", "2 rose 1;", 0, 0, 1);
        look("dusk 0 1 0 0;dusk 0 2 0 0;dusk 0 2 0 0;", "3 rose 2;", 1, 1, 1);
    }

    private static void lookNone() {
        t.says("NONE: there is none such");
        look("", "", -1, -1, -1);
        look("", "0 gold 0;", -1, -1, -1);
        look("dusk 4 4 4 4;", "0 gold 4;0 rose 4;0 green 4;0 grey 4;", -1, -1, -1);
        look("dusk 4 4 4 4;", "0 gold 3;0 rose 4;0 green 4;0 grey 4;", -1, -1, -1);
        String eight = "0gold4;0rose4;0green4;0grey4;1gold4;1rose4;1green4;";
        look("dusk 4 4 4 4;dusk 4 4 4 4;", eight, 1, 3, 2);
        look("dusk 4 4 4 4;dusk 4 4 4 4;", eight + "1grey4;", -1, -1, -1);
        t.says("fewest of these are left at the worst: none, if the BOOK is right by no number");
        look("dusk 4 4 4 4;dusk 5 4 4 4;", "0 gold 9;", 0, 1, 0);
        DuskDebts x = new DuskDebts();
        t.refuses("what 3", Coasts.WRONG, () -> x.look(3));
        t.refuses("what -1", Coasts.WRONG, () -> x.look(-1));
    }

    // ---- settle, now ----

    private static void settle(int fog, int n, int g, int f, int k, long above, long below, boolean now) {
        DuskDebts x = Coasts.on("fog " + fog + ";");
        String call = "(" + n + ", " + g + ", " + f + ", " + k + ") in fog " + fog;
        t.same("settle, above, of " + call, x.settle(n, g, f, k, 0), above);
        t.same("settle, below, of " + call, x.settle(n, g, f, k, 1), below);
        t.same("now" + call, x.now(n, g, f, k), now);
    }

    private static void settle() {
        t.says("n parts can be paid off by n less g now; or one waits, k DUSKS at most (0: now); (0 at least, all)");
        settle(8, 0, 0, 0, 0, 0, 1, true);
        settle(8, 999, 0, 999, 0, 999, 1, true);
        settle(8, 999, 999, 999, 6, 0, 1, true);
        settle(8, 999, 998, 999, 6, 1, 1, true);
        settle(8, 5, 6, 0, 0, 0, 1, true);
        settle(0, 10, 5, 0, 1, 0, 1, false);
        settle(0, 10, 4, 0, 1, 2, 1, false);
        settle(0, 10, 6, 0, 1, 0, 1, false);
        settle(0, 10, 0, 0, 6, 10, 1, true);
        settle(0, 10, 4, 999, 6, 2, 1, false);
        settle(0, 10, 10, 0, 6, 0, 1, true);
        settle(16, 10, 1, 0, 6, 9, 1, true);
        settle(16, 0, 0, 0, 1, 0, 1, true);
        settle(16, 0, 9, 9, 6, 0, 1, true);
        DuskDebts x = Coasts.on("fog 3;");
        for (int out : new int[] {-1, 1000, Integer.MIN_VALUE, Integer.MAX_VALUE}) {
            t.refuses("n " + out, Coasts.WRONG, () -> x.settle(out, 0, 0, 0, 0));
            t.refuses("g " + out, Coasts.WRONG, () -> x.settle(0, out, 0, 0, 0));
            t.refuses("f " + out, Coasts.WRONG, () -> x.settle(0, 0, out, 0, 0));
            t.refuses("now, n " + out, Coasts.WRONG, () -> x.now(out, 0, 0, 0) ? 1 : 0);
            t.refuses("now, g " + out, Coasts.WRONG, () -> x.now(0, out, 0, 0) ? 1 : 0);
            t.refuses("now, f " + out, Coasts.WRONG, () -> x.now(0, 0, out, 0) ? 1 : 0);
        }
        for (int out : new int[] {-1, 7, Integer.MIN_VALUE, Integer.MAX_VALUE}) {
            t.refuses("k " + out, Coasts.WRONG, () -> x.settle(0, 0, 0, out, 0));
            t.refuses("now, k " + out, Coasts.WRONG, () -> x.now(0, 0, 0, out) ? 1 : 0);
        }
        t.refuses("part 2", Coasts.WRONG, () -> x.settle(0, 0, 0, 0, 2));
        t.refuses("part -1", Coasts.WRONG, () -> x.settle(0, 0, 0, 0, -1));
    }

    private static void settleFog() {
        t.says("in each of these fog comes by Q of 16: then n and f are lost; else one may pay n less g, or wait on, if there is one more; behind the last one pays n less 2 g");
        settle(8, 20, 10, 0, 1, 10, 1, true);
        settle(8, 20, 11, 0, 1, 9, 1, true);
        settle(8, 21, 10, 0, 1, 11, 1, true);
        settle(8, 22, 10, 0, 1, 12, 1, true);
        settle(7, 20, 10, 0, 1, 35, 4, false);
        settle(9, 20, 10, 0, 1, 10, 1, true);
        settle(8, 20, 9, 0, 1, 11, 1, true);
        settle(8, 20, 9, 1, 1, 11, 1, true);
        settle(1, 16, 1, 15, 1, 15, 1, true);
        settle(1, 1, 1, 0, 6, 0, 1, true);
        settle(15, 999, 1, 999, 6, 998, 1, true);
        settle(1, 40, 20, 0, 2, 155, 32, false);
        settle(1, 16, 8, 1, 1, 17, 16, false);
        settle(1, 16, 8, 1, 2, 527, 256, false);
        settle(1, 16, 8, 1, 3, 12257, 4096, false);
        settle(1, 16, 8, 1, 6, 91572047, 16777216, false);
    }

    /** The mean loss by trying each plan: waiting on for 0 to k dusks, and then paying, or behind the last. */
    private static void settleByHand() {
        t.says("the least mean loss, by paying when it is best, as a fraction, in least terms");
        int[][] calls = {{100, 20, 10}, {100, 60, 0}, {100, 0, 50}, {7, 3, 5}, {999, 499, 999}, {50, 25, 1}, {50, 26, 1}, {1, 0, 0}, {3, 1, 0}, {640, 100, 64}};
        for (int fog = 0; fog <= 16; fog++) {
            for (int[] c : calls) {
                for (int k = 0; k <= 6; k++) {
                    java.math.BigInteger unit = java.math.BigInteger.valueOf(16).pow(k);
                    long units = unit.longValue();
                    long now = Math.max(0, c[0] - c[1]) * units;
                    long best = Long.MAX_VALUE;
                    for (int stop = 1; stop <= k; stop++) {
                        long loss = 0;
                        long clear = units;
                        for (int i = 1; i <= stop; i++) {
                            loss += clear / 16 * fog * (c[0] + c[2]);
                            clear = clear / 16 * (16 - fog);
                        }
                        loss += clear * Math.max(0, c[0] - (stop == k ? 2 : 1) * c[1]);
                        best = Math.min(best, loss);
                    }
                    long least = Math.min(now, best);
                    long common = java.math.BigInteger.valueOf(least).gcd(unit).longValue();
                    settle(fog, c[0], c[1], c[2], k, least / common, units / common, now <= best);
                }
            }
        }
    }

    private static void now() {
        t.says("Whether it is best to pay now (no worse than waiting)");
        DuskDebts x = Coasts.on("fog 8;");
        t.same("k 0", x.now(999, 0, 999, 0), true);
        t.same("no worse", x.now(20, 10, 0, 1), true);
        t.same("no worse, nothing owed", x.now(0, 0, 0, 6), true);
        DuskDebts less = Coasts.on("fog 7;");
        t.same("worse", less.now(20, 10, 0, 1), false);
        t.same("no worse by f", less.now(20, 10, 2, 1), false);
        t.same("no worse by f", less.now(20, 10, 3, 1), true);
    }

    // ---- has, bids ----

    private static void has() {
        t.says("he who bids more gets all of it (both half, cut, if alike), and pays what he bid (who gets nothing, half of it, cut)");
        DuskDebts x = Coasts.on("dusk 12 1 7 0;dusk 0 40 2 3;");
        t.same("more by one", x.has(0, 0, 1, 0), 11);
        t.same("less by one", x.has(0, 0, 0, 1), 0);
        t.same("less", x.has(0, 0, 1, 2), 0);
        t.same("less", x.has(0, 0, 2, 3), -1);
        t.same("less", x.has(0, 0, 98, 99), -49);
        t.same("less", x.has(0, 0, 97, 99), -48);
        t.same("more", x.has(0, 0, 99, 98), 12 - 99);
        t.same("alike", x.has(0, 0, 0, 0), 6);
        t.same("alike", x.has(0, 0, 99, 99), 6 - 99);
        t.same("half of 7", x.has(0, 2, 1, 1), 2);
        t.same("half of 1", x.has(0, 1, 0, 0), 0);
        t.same("a bid of more, for no light", x.has(0, 3, 4, 0), -4);
        t.same("dusk 200 as told", x.has(200, 0, 1, 0), 11);
        t.same("dusk 199 as told", x.has(199, 1, 1, 0), 39);
        t.says("a DUSK (0 to 200), a COLOUR; a bid (0 to 99 both)");
        t.refuses("dusk 201", Coasts.WRONG, () -> x.has(201, 0, 0, 0));
        t.refuses("dusk -1", Coasts.WRONG, () -> x.has(-1, 0, 0, 0));
        t.refuses("colour 4", Coasts.WRONG, () -> x.has(0, 4, 0, 0));
        t.refuses("colour -1", Coasts.WRONG, () -> x.has(0, -1, 0, 0));
        t.refuses("own 100", Coasts.WRONG, () -> x.has(0, 0, 100, 0));
        t.refuses("own -1", Coasts.WRONG, () -> x.has(0, 0, -1, 0));
        t.refuses("other 100", Coasts.WRONG, () -> x.has(0, 0, 0, 100));
        t.refuses("other -1", Coasts.WRONG, () -> x.has(0, 0, 0, -1));
    }

    private static void bids(int light, int n, int rests, int first, int has) {
        DuskDebts x = Coasts.on("dusk 0 0 0 " + light + ";");
        t.same("rests, light " + light + ", bids to " + n, x.bids(0, 3, n, 0), rests);
        t.same("the first, light " + light + ", bids to " + n, x.bids(0, 3, n, 1), first);
        t.same("has, light " + light + ", bids to " + n, x.bids(0, 3, n, 2), has);
    }

    private static void bids() {
        t.says("RESTS: neither would have more by another bid; 0 how many RESTS, 1 the first (100 times the one, and the other one; NONE), 2 what the one has by it (0 without)");
        for (int light = 0; light <= 40; light++) {
            for (int n = 0; n <= 20; n++) {
                int rests = 0;
                int first = -1;
                int has = 0;
                for (int a = 0; a <= n; a++) {
                    for (int b = 0; b <= n; b++) {
                        boolean rest = true;
                        for (int c = 0; c <= n; c++) {
                            rest &= gain(light, c, b) <= gain(light, a, b) && gain(light, c, a) <= gain(light, b, a);
                        }
                        has = rest && rests == 0 ? gain(light, a, b) : has;
                        first = rest && rests == 0 ? 100 * a + b : first;
                        rests += rest ? 1 : 0;
                    }
                }
                bids(light, n, rests, first, has);
            }
        }
    }

    private static int gain(int light, int own, int other) {
        int gets = own > other ? light : own == other ? light / 2 : 0;
        return gets - (own < other ? own / 2 : own);
    }

    private static void bidsAtTheEdges() {
        t.says("BIDS by n (0 to 20) for a DUSK (0 to 200), a COLOUR");
        bids(0, 0, 1, 0, 0);
        bids(0, 20, 1, 0, 0);
        bids(40, 20, 1, 2020, 0);
        bids(12, 3, 1, 303, 3);
        bids(2, 1, 4, 0, 1);
        bids(4, 20, 0, -1, 0);
        DuskDebts x = Coasts.on("dusk 0 0 0 40;dusk 0 0 0 2;");
        t.same("dusk 200 as told", x.bids(200, 3, 20, 1), 2020);
        t.same("dusk 199 as told", x.bids(199, 3, 1, 0), 4);
        t.same("without dusks", new DuskDebts().bids(0, 0, 20, 0), 1);
        t.refuses("n 21", Coasts.WRONG, () -> x.bids(0, 0, 21, 0));
        t.refuses("n -1", Coasts.WRONG, () -> x.bids(0, 0, -1, 0));
        t.refuses("dusk 201", Coasts.WRONG, () -> x.bids(201, 0, 0, 0));
        t.refuses("dusk -1", Coasts.WRONG, () -> x.bids(-1, 0, 0, 0));
        t.refuses("colour 4", Coasts.WRONG, () -> x.bids(0, 4, 0, 0));
        t.refuses("colour -1", Coasts.WRONG, () -> x.bids(0, -1, 0, 0));
        t.refuses("what 3", Coasts.WRONG, () -> x.bids(0, 0, 0, 3));
        t.refuses("what -1", Coasts.WRONG, () -> x.bids(0, 0, 0, -1));
    }
}
