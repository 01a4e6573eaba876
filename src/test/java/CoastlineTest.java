/** Promises 21 to 26: weddings, the sea, chairs. */
public final class CoastlineTest {
    private static final Coasts t = new Coasts("CoastlineTest");

    public static void main(String[] args) {
        weddings();
        sea();
        chairs();
        t.end();
    }

    private static void weds(String coast, int... days) {
        DuskDebts x = Coasts.on(coast);
        int matched = 0;
        for (int w = 0; w < days.length; w++) {
            t.same("wedding " + w + " of " + coast, x.weds(w), days[w]);
            matched += days[w] >= 0 ? 1 : 0;
        }
        t.same("matched of " + coast, x.matched(), matched);
    }

    private static void weddings() {
        weds("wedding gold 1 60;", -1);
        weds("dusk 5 0 0 0;wedding gold 5 60;wedding gold 5 60;wedding gold 6 60;", 0, 1, -1);
        weds("dusk 5 0 0 0;wedding gold 5 1;wedding gold 5 0;", 1, 0);
        weds("dusk 5 0 0 0;wedding gold 5 0;wedding gold 5 0;wedding gold 1 1;wedding gold 1 1;", 0, -1, 1, -1);
        weds("dusk 5 1 0 0;dusk 1 5 0 0;wedding gold 1 5;wedding gold 5 0;wedding rose 5 1;", 2, 0, 1);
        weds("dusk 1 0 0 0;wedding gold 1 5;wedding gold 1 4;wedding gold 1 3;wedding gold 1 2;wedding gold 1 1;wedding gold 1 0;",
            5, 4, 3, 2, 1, 0);
        weds("dusk 0 0 0 0;".repeat(10) + "dusk 1 0 0 0;wedding gold 1 10;wedding gold 1 21;", 10, 21);
        weds("dusk 1 0 0 0;" + "dusk 0 0 0 0;".repeat(11)
            + "wedding gold 1 60;wedding gold 1 48;wedding gold 1 36;wedding gold 1 24;wedding gold 1 12;wedding gold 1 0;", 60, 48, 36, 24, 12, 0);
        DuskDebts x = Coasts.on("dusk 5 0 0 0;dusk 0 0 0 40;wedding gold 5 60;wedding gold 6 60;wedding grey 40 0;wedding grey 40 1;");
        t.same("choices", x.choices(0), 31);
        t.same("choices", x.choices(1), 0);
        t.same("choices", x.choices(2), 0);
        t.same("choices", x.choices(3), 1);
        Coasts.work(x, "dusk;dusk;dusk;");
        t.same("as told, whatever the dusk is now", x.weds(0), 0);
    }

    private static void sea() {
        DuskDebts x = Coasts.on("creditor 3 2;creditor 3 3;creditor 0 0;creditor 1 0;creditor 1 1;ridge 1 1;ridge 3 0;");
        t.same("as high as the line", x.sees(0), false);
        t.same("above it", x.sees(1), true);
        t.same("nothing between", x.sees(2), true);
        t.same("the ridge there counts", x.sees(3), true);
        t.same("the ridge there counts", x.sees(4), true);
        t.same("eyes", x.eyes(3), 3);
        t.same("eyes", x.eyes(0), 0);
        DuskDebts steep = Coasts.on("ridge 0 20;ridge 4 20;");
        t.same("20 times 5 and more", steep.eyes(4), 81);
        t.same("20 times 4", steep.eyes(3), 81);
        t.same("beyond 99", steep.eyes(5), -1);
        DuskDebts edge = Coasts.on("ridge 0 20;ridge 4 1;");
        t.same("101 is wanted, the ridge there has 1", edge.eyes(4), -1);
        DuskDebts high = Coasts.on("ridge 0 20;ridge 4 2;");
        t.same("99 still counts", high.eyes(4), 99);
    }

    private static void chairs(String coast, int d, int many, int bits) {
        DuskDebts x = Coasts.on(coast);
        t.same("chairs by " + d + " of " + coast, x.chairs(d, 0), many);
        t.same("cells by " + d + " of " + coast, x.chairs(d, 1), bits);
    }

    private static void chairs() {
        chairs("", 3, 0, 0);
        chairs("creditor 19 0;", 0, 1, 1 << 19);
        chairs("creditor 19 0;", 5, 1, 1 << 14);
        chairs("creditor 19 0;creditor 19 3;", 19, 1, 1);
        chairs("creditor 0 0;creditor 19 0;", 9, 2, 1 | 1 << 10);
        chairs("creditor 0 0;creditor 19 0;", 10, 1, 1 << 9);
        chairs("creditor 2 0;creditor 3 0;creditor 6 0;", 1, 2, 1 << 2 | 1 << 5);
        chairs("creditor 1 0;creditor 4 0;creditor 7 0;creditor 10 0;", 2, 2, 1 << 2 | 1 << 8);
        chairs("creditor 1 0;creditor 4 0;creditor 7 0;creditor 10 0;creditor 13 0;", 2, 3, 1 | 1 << 5 | 1 << 11);
    }
}
