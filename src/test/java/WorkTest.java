/** Promises 5, 8 to 13, 41 to 44: work, what it changes, undone, images. */
public final class WorkTest {
    private static final Coasts t = new Coasts("WorkTest");

    public static void main(String[] args) {
        steps();
        dusks();
        defaults();
        limits();
        lateDusks();
        undone();
        fullOfWorks();
        images();
        newCoast();
        t.end();
    }

    private static void steps() {
        DuskDebts x = Coasts.on(Coasts.BAY);
        t.same("more than is owed", Coasts.work(x, "pay 1 11;"), 0);
        t.same("is refused", x.told(8), 1);
        t.same("more than light", Coasts.work(x, "pay 0 13;pay 2 3;end 0;end 2;"), 0);
        t.same("are refused", x.told(8), 4);
        t.same("nothing changed", x.told(5), 36);
        t.same("pay and end", Coasts.work(x, "pay 1 4;end 1;end 1;pay 1 1;"), 2);
        t.same("two refused", x.told(8), 2);
        t.same("paid on it", x.debt(1, 6), 10);
        t.same("light left", x.light(0, 0), 2);
        t.same("paid of gold", x.light(0, 4), 10);
        t.same("owed of gold", x.light(0, 3), 20);
        t.same("lamps", Coasts.work(x, "lamp rose 8;lamp gold 1;lamp rose 7;lamp rose 1;"), 1);
        t.same("lent", x.light(1, 2), 7);
        t.same("not any more", x.light(1, 1), 0);
        t.same("more light", x.light(1, 0), 9);
        t.same("hand", Coasts.work(x, "hand 0 0;hand 1 2;hand 0 1;hand 0 1;hand 0 0;hand 0 2;"), 3);
        t.same("refused hands", x.told(8), 3);
        t.same("to whom", x.debt(0, 0), 2);
        t.same("debts to him", x.creditor(2, 2), 2);
        t.same("parts to him", x.creditor(2, 3), 26);
        t.same("none to the first", x.creditor(0, 2), 0);
        t.same("greatest", x.greatest(), 2);
        DuskDebts lit = Coasts.on("lamp green 99;");
        t.same("99 at once", Coasts.work(lit, "lamp green 99;"), 1);
        t.same("99 there", lit.light(2, 0), 99);
        t.same("a text of nothing", Coasts.work(x, "  "), 0);
        t.same("is a work without refused ones", x.told(8), 0);
    }

    private static void dusks() {
        DuskDebts x = Coasts.on(Coasts.BAY);
        t.same("lamp and dusk", Coasts.work(x, "lamp rose 3;dusk;"), 2);
        t.same("light is lost, its own comes", x.light(1, 0), 6);
        t.same("lent stays", x.light(1, 2), 3);
        t.same("grown", x.debt(0, 2), 30);
        t.same("grown", x.debt(1, 2), 12);
        t.same("grown", x.debt(2, 2), 12);
        t.same("the dusk", x.told(4), 1);
        t.same("dusk", Coasts.work(x, "dusk;"), 1);
        t.same("the first comes again", x.light(0, 0), 12);
        t.same("dusk as told", x.dusk(199, 1), 6);
        t.same("dusk as told", x.dusk(200, 1), 2);
        DuskDebts bare = Coasts.on("creditor 0 0;debt 0 gold 1 16 0;");
        t.same("no dusks, no light", bare.light(0, 0), 0);
        t.same("still dusk comes", Coasts.work(bare, "dusk;dusk;dusk;"), 3);
        t.same("doubled thrice", bare.told(5), 8);
        t.same("no light as told", bare.dusk(3, 0), 0);
    }

    private static void defaults() {
        DuskDebts x = Coasts.on("creditor 0 0;debt 0 gold 5 0 1;debt 0 gold 5 0 1;debt 0 gold 5 0 2;dusk 5 0 0 0;");
        Coasts.work(x, "end 0;dusk;");
        t.same("none is late", x.told(6), 0);
        Coasts.work(x, "pay 1 4;dusk;");
        t.same("one is late", x.told(6), 1);
        t.same("paid in time", x.debt(0, 5), 0);
        t.same("late", x.debt(1, 5), 1);
        Coasts.work(x, "end 1;pay 2 4;dusk;end 2;");
        t.same("for good", x.debt(1, 5), 1);
        t.same("late by its own dusk", x.debt(2, 5), 1);
        t.same("nothing owed", x.told(5), 0);
        t.same("two in default", x.told(6), 2);
        t.same("debts with something owed", x.creditor(0, 2), 0);
        t.same("nobody is owed", x.greatest(), -1);
    }

    private static void limits() {
        DuskDebts x = Coasts.on("creditor 0 0;debt 0 gold 99 0 0;");
        t.same("agains count as begun", Coasts.work(x, "again 20[again 20[dusk;];];"), 189);
        t.same("the dusk", x.told(4), 189);
        x.undo();
        String agains = "again 20[dusk;];".repeat(7);
        t.same("refused ones count as begun", Coasts.work(x, "again 20[pay 0 1;again 10[];dusk;];" + agains), 20 + 6 * 20 + 12);
        t.same("refused", x.told(8), 20);
        x.undo();
        t.same("none again", Coasts.work(x, "again 0[dusk;];dusk;"), 1);
        x.undo();
        t.same("exactly 200", Coasts.work(x, "again 10[again 18[dusk;];];again 7[dusk;];dusk;dusk;"), 188);
        t.same("what comes behind is left out", x.told(4), 188);
        t.same("and not refused", x.told(8), 0);
    }

    private static void lateDusks() {
        DuskDebts x = Coasts.on("creditor 0 0;debt 0 gold 99 16 0;dusk 1 0 0 0;");
        Coasts.work(x, "again 20[again 20[dusk;];];");
        t.same("on to 200", Coasts.work(x, "again 20[dusk;];"), 11);
        t.same("refused on 200", x.told(8), 9);
        t.same("dusk 200", x.told(4), 200);
        t.same("9,999 at most", x.told(5), 9999);
        t.same("pay still goes", Coasts.work(x, "pay 0 1;"), 1);
        t.same("9,998", x.told(5), 9998);
        t.same("may wait beyond 200", x.delay(0, 9999), 60);
        t.same("and not at 9,998", x.delay(0, 9998), 0);
    }

    private static void undone() {
        DuskDebts x = Coasts.on(Coasts.BAY);
        Coasts.work(x, "pay 0 5;pay 1 99;");
        Coasts.work(x, "lamp rose 4;hand 0 1;dusk;dusk;dusk;");
        t.same("in default", x.told(6), 2);
        t.same("undo", x.undo(), 1);
        t.same("refused is 0 behind undo", x.told(8), 0);
        t.same("not in default", x.told(6), 0);
        t.same("not lent", x.light(1, 2), 0);
        t.same("not handed", x.debt(0, 0), 0);
        t.same("dusk 0", x.told(4), 0);
        t.same("light", x.light(0, 0), 7);
        t.same("undo", x.undo(), 0);
        t.same("all owed", x.told(5), 36);
        t.same("nothing paid", x.light(0, 4), 0);
        t.same("nothing to undo", x.undo(), -1);
        Coasts.law(x, "paid");
        Coasts.work(x, "pay 0 5;");
        t.same("paid in this dusk", x.grows(0), 5);
        x.undo();
        t.same("paid is undone, the law stays", x.grows(0), 0);
    }

    private static void fullOfWorks() {
        DuskDebts x = Coasts.on(Coasts.BAY);
        for (int i = 1; i <= 16; i++) {
            t.same("work", Coasts.work(x, "pay 0 1;pay 1 99;"), i <= 12 ? 1 : 0);
            t.same("works", x.count(2), i);
        }
        t.text("a faulty one leaves its place", Coasts.coast(x, "zzz"), -9, x, 0);
        t.text("a 17th", Coasts.work(x, "zzz"), -20, x, -1);
        t.same("the tape is empty", x.count(1), 0);
        t.same("the latest work's refused", x.told(8), 2);
        t.refuses("a wrong length is refused ahead", Coasts.WRONG, () -> x.work(1));
        t.same("an image of 16 works", x.image(), 1);
        x.undo();
        x.undo();
        t.same("brought back", x.restore(), 0);
        t.same("16 works", x.count(2), 16);
        t.same("as it was", x.told(5), 24);
        t.same("undo", x.undo(), 15);
        t.same("room again", Coasts.work(x, "dusk;"), 1);
        for (int i = 15; i >= 0; i--) {
            t.same("undo", x.undo(), i);
        }
        t.same("all owed again", x.told(5), 36);
    }

    private static void images() {
        DuskDebts x = Coasts.on(Coasts.BAY);
        t.same("no image", x.restore(), -1);
        Coasts.work(x, "pay 0 1;");
        t.same("image", x.image(), 1);
        Coasts.work(x, "pay 0 2;");
        t.same("image", x.image(), 2);
        x.undo();
        x.undo();
        t.same("image", x.image(), 3);
        t.same("no fourth", x.image(), -1);
        t.same("three", x.count(0), 3);
        Coasts.work(x, "dusk;dusk;pay 0 99;");
        Coasts.law(x, "3");
        Coasts.book(x, "0 gold 1;");
        t.same("a refused step", x.told(8), 1);
        t.same("restore", x.restore(), 2);
        t.same("no refused step behind restore", x.told(8), 0);
        t.same("as it was", x.told(5), 36);
        t.same("no works", x.count(2), 0);
        t.same("restore", x.restore(), 1);
        t.same("as it was", x.told(5), 33);
        t.same("two works", x.count(2), 2);
        t.same("they can be undone", x.undo(), 1);
        t.same("as ahead of it", x.told(5), 35);
        t.same("law and book stay", x.grows(0) * 10 + x.told(7), 31);
        t.refuses("a debt that is none", Coasts.NO_SUCH, () -> x.grows(3));
        t.same("restore", x.restore(), 0);
        t.same("no image keeps refusals", x.status(0), 1);
        t.same("one work", x.undo(), 0);
        t.same("all", x.told(5), 36);
        t.same("restore", x.restore(), -1);
        t.same("count of others", x.count(-1), -1);
        t.same("count of others", x.count(3), -1);
        t.same("status of others", x.status(-1), -1);
        t.same("status of others", x.status(2), -1);
    }

    private static void newCoast() {
        DuskDebts x = Coasts.on(Coasts.BAY);
        Coasts.work(x, "dusk;lamp rose 2;pay 1 99;");
        Coasts.law(x, "1");
        Coasts.book(x, "0 gold 1;");
        x.image();
        t.same("the same coast", Coasts.coast(x, Coasts.BAY), 3);
        t.same("no images", x.count(0), 0);
        t.same("nothing to undo", x.count(2), 0);
        t.same("no book", x.told(7), 0);
        t.same("no law", x.grows(0), 10);
        t.same("dusk 0", x.told(4), 0);
        t.same("nothing lent", x.light(1, 2), 0);
        t.same("nothing refused", x.told(8), 0);
        t.same("all owed", x.told(5), 36);
    }
}
