/** Promises 27 to 36: claims, rings, dusks that were moved, settling, bids. */
public final class ClaimsTest {
    private static final Coasts t = new Coasts("ClaimsTest");

    public static void main(String[] args) {
        claims();
        rings();
        moves();
        settling();
        bidding();
        t.end();
    }

    private static void claims() {
        DuskDebts x = Coasts.on("creditor 0 0;creditor 1 1;creditor 2 2;creditor 3 3;"
            + "debt 0 gold 10 0 0;debt 1 gold 20 0 0;debt 1 gold 10 0 0;debt 2 gold 60 0 0;debt 3 rose 9 0 0;dusk 40 9 0 0;");
        int[] byParts = {4, 12, 24, 0};
        int[] levelled = {10, 15, 15, 0};
        for (int c = 0; c < 4; c++) {
            t.same("by parts", x.gets(c, 0, 40, 0), byParts[c]);
            t.same("levelled", x.gets(c, 0, 40, 1), levelled[c]);
            t.same("of nothing", x.gets(c, 0, 0, 0) + x.gets(c, 0, 0, 1), 0);
            t.same("of a colour that is not owed", x.gets(c, 2, 9, 0) + x.gets(c, 2, 9, 1), 0);
        }
        t.same("cut", x.gets(0, 0, 39, 0), 3);
        t.same("the bound is cut", x.gets(1, 0, 41, 1), 15);
        t.same("all that is claimed", x.gets(2, 0, 999, 1), 60);
        t.same("all that is claimed", x.gets(2, 0, 100, 0), 60);
        t.same("by parts, no more than he claims", x.gets(2, 0, 101, 0), 60);
        t.same("by parts, no more than he claims", x.gets(2, 0, 999, 0), 60);
        t.same("by parts, one fewer than is claimed", x.gets(2, 0, 99, 0), 59);
        t.same("of rose", x.gets(3, 1, 5, 1), 5);
        Coasts.work(x, "hand 0 3;pay 3 30;");
        t.same("what is owed to him now", x.gets(3, 0, 70, 0), 10);
        t.same("what is owed to him now", x.gets(2, 0, 70, 0), 30);
        t.same("nothing any more", x.gets(0, 0, 70, 1), 0);
    }

    private static void rings() {
        DuskDebts x = Coasts.on("creditor 0 0;creditor 1 1;creditor 2 2;owes 0 1 50;owes 0 1 49;owes 1 2 30;owes 2 0 10;owes 1 0 5;");
        t.same("adds up", x.owes(0, 1), 99);
        t.same("the other way", x.owes(1, 0), 5);
        t.same("himself", x.owes(1, 1), 0);
        t.same("net", x.net(0), 15 - 99);
        t.same("net", x.net(1), 99 - 35);
        t.same("net", x.net(2), 30 - 10);
        t.same("struck", x.struck(0), 84);
        t.same("less", x.struck(1), 144 - 84);
        DuskDebts full = Coasts.on("creditor 0 0;creditor 1 1;" + "owes 0 1 99;".repeat(10) + "owes 0 1 9;owes 1 0 1;");
        t.same("999", full.owes(0, 1), 999);
        DuskDebts over = Coasts.on("creditor 0 0;creditor 1 1;" + "owes 0 1 99;".repeat(11));
        t.same("999 at most", over.owes(0, 1), 999);
        t.same("999 at most", over.net(1), 999);
    }

    private static void look(DuskDebts x, int dusk, int colour, int worst) {
        t.same("look dusk", x.look(0), dusk);
        t.same("look colour", x.look(1), colour);
        t.same("look worst", x.look(2), worst);
    }

    private static void moves() {
        DuskDebts x = Coasts.on("dusk 1 0 0 3;dusk 1 0 0 3;dusk 2 0 0 3;dusk 2 5 0 3;");
        t.same("all without lines", x.moved(), 15);
        look(x, 0, 0, 2);
        Coasts.book(x, "0 gold 1;");
        t.same("two", x.moved(), 3);
        look(x, 1, 0, 1);
        Coasts.book(x, "0 gold 1;60 gold 2;");
        t.same("dusk 60 is as dusk 0", x.moved(), 0);
        look(x, 0, 1, 0);
        Coasts.book(x, "5 rose 5;");
        t.same("moved by two", x.moved(), 4);
        look(x, 0, 0, 1);
        t.same("lines", x.told(7), 1);
        DuskDebts flat = Coasts.on("dusk 1 2 3 4;dusk 1 2 3 4;");
        look(flat, 0, 0, 2);
        Coasts.book(flat, "0 gold 1;0 rose 2;0 green 3;0 grey 4;1 gold 1;1 rose 2;1 green 3;1 grey 4;");
        t.same("all right", flat.moved(), 3);
        look(flat, -1, -1, -1);
        DuskDebts none = new DuskDebts();
        Coasts.book(none, "0 gold 0;");
        t.same("no dusks", none.moved(), 0);
        look(none, -1, -1, -1);
    }

    private static void settle(int fog, int n, int g, int f, int k, long above, long below) {
        DuskDebts x = Coasts.on("fog " + fog + ";");
        t.same("settle above", x.settle(n, g, f, k, 0), above);
        t.same("settle below", x.settle(n, g, f, k, 1), below);
    }

    private static void settling() {
        settle(0, 100, 20, 10, 6, 60, 1);
        settle(16, 100, 20, 10, 6, 80, 1);
        settle(4, 100, 20, 10, 0, 80, 1);
        settle(4, 100, 20, 10, 1, 145, 2);
        settle(4, 10, 10, 999, 6, 0, 1);
        settle(1, 100, 50, 0, 1, 25, 4);
        settle(1, 100, 50, 0, 2, 775, 64);
        settle(0, 0, 0, 0, 6, 0, 1);
        DuskDebts x = Coasts.on("fog 8;");
        t.same("alike: now", x.now(20, 10, 0, 1), true);
        t.same("settled", x.settle(20, 10, 0, 1, 0), 10);
        t.same("worse", x.now(20, 10, 1, 1), true);
        t.same("better", x.now(21, 11, 0, 1), true);
        t.same("better", x.now(22, 10, 0, 1), true);
        DuskDebts clear = Coasts.on("fog 3;");
        t.same("waiting is better", clear.now(100, 40, 0, 1), false);
        t.same("now if there is none to wait", clear.now(100, 40, 0, 0), true);
    }

    private static void bidding() {
        DuskDebts x = Coasts.on("dusk 12 1 7 0;dusk 0 40 0 3;");
        t.same("more", x.has(0, 0, 5, 4), 7);
        t.same("less", x.has(0, 0, 4, 5), -2);
        t.same("less, cut", x.has(0, 0, 5, 99), -2);
        t.same("alike", x.has(0, 2, 2, 2), 1);
        t.same("alike of nothing", x.has(1, 0, 3, 3), -3);
        t.same("more of nothing", x.has(1, 0, 99, 0), -99);
        t.same("the dusk as told", x.has(199, 1, 1, 0), 39);
        for (int dusk = 0; dusk < 2; dusk++) {
            for (int colour = 0; colour < 4; colour++) {
                for (int n = 0; n <= 20; n++) {
                    bidsByHand(x, dusk, colour, n);
                }
            }
        }
    }

    private static void bidsByHand(DuskDebts x, int dusk, int colour, int n) {
        int rests = 0;
        int first = -1;
        int has = 0;
        for (int a = 0; a <= n; a++) {
            for (int b = 0; b <= n; b++) {
                boolean rest = true;
                for (int other = 0; other <= n; other++) {
                    rest &= x.has(dusk, colour, other, b) <= x.has(dusk, colour, a, b);
                    rest &= x.has(dusk, colour, other, a) <= x.has(dusk, colour, b, a);
                }
                if (rest) {
                    if (rests == 0) {
                        first = 100 * a + b;
                        has = x.has(dusk, colour, a, b);
                    }
                    rests++;
                }
            }
        }
        t.same("rests", x.bids(dusk, colour, n, 0), rests);
        t.same("first", x.bids(dusk, colour, n, 1), first);
        t.same("has", x.bids(dusk, colour, n, 2), has);
    }
}
