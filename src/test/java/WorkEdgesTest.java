/** The edges that the document's part ==== 2. names, and promises 1, 5, 8, 9 (8), 41 to 44: sentence by sentence. */
public final class WorkEdgesTest {
    private static final Coasts t = new Coasts("WorkEdgesTest");

    public static void main(String[] args) {
        newObject();
        atFirst();
        refusedChangesNothing();
        stepsBegun();
        againsBegun();
        pay();
        end();
        lamp();
        hand();
        lastDusk();
        grows();
        mostOwed();
        defaults();
        light();
        stepsDone();
        sixteenWorks();
        undo();
        refusedSteps();
        threeImages();
        restore();
        refusedCalls();
        counts();
        t.end();
    }

    private static DuskDebts worked(String coast, String... works) {
        DuskDebts x = Coasts.on(coast);
        for (String work : works) {
            t.same("the test's own " + work, Coasts.work(x, work) >= 0, true);
        }
        return x;
    }

    private static void done(DuskDebts x, String work, int done, int refused) {
        t.same("steps done by " + work, Coasts.work(x, work), done);
        t.same("steps refused by " + work, x.told(8), refused);
    }

    private static void newObject() {
        t.says("A COAST without CLAUSES");
        DuskDebts x = new DuskDebts();
        t.same("as an empty coast", Coasts.all(x), Coasts.all(Coasts.on("")));
        t.same("nothing is owed", x.soon() + x.left(0) + x.left(60) + x.best(0) + x.best(1), 0);
        t.same("nobody is there", x.chairs(0, 0) + x.chairs(19, 1) + x.struck(0) + x.struck(1), 0);
        t.same("none", x.next() + x.greatest() + x.brightest(0) + x.look(0) + x.undo() + x.restore(), -6);
        t.refuses("no creditor", Coasts.NO_SUCH, () -> x.creditor(0, 0));
        t.refuses("no debt", Coasts.NO_SUCH, () -> x.debt(0, 0));
        t.refuses("no wedding", Coasts.NO_SUCH, () -> x.weds(0));
        t.same("no fog", x.decade(0, 60, 2), 0);
        t.same("work without clauses", Coasts.work(x, "dusk;lamp gold 1;dusk;"), 2);
        t.same("lamps have nothing", x.told(8), 1);
    }

    // ---- part 2 ----

    private static void atFirst() {
        t.says("It is DUSK 0 at first; its light is there, DEBTS are as told, nothing is lent");
        DuskDebts x = Coasts.on("creditor 0 0;creditor 1 1;debt 1 green 99 16 60;debt 0 gold 1 0 0;lamp grey 9;dusk 1 2 3 4;dusk 5 6 7 8;");
        t.same("dusk 0", x.told(4), 0);
        for (int k = 0; k < 4; k++) {
            t.same("its light", x.light(k, 0), k + 1);
            t.same("nothing is lent", x.light(k, 2), 0);
            t.same("nothing is paid", x.light(k, 4), 0);
        }
        t.same("lamps", x.light(3, 1), 9);
        t.same("as told", x.debt(0, 0) * 10000 + x.debt(0, 2), 10099);
        t.same("as told", x.debt(1, 0) * 10000 + x.debt(1, 2), 1);
        t.same("none in default, nothing paid", x.told(6) + x.debt(0, 5) + x.debt(0, 6), 0);
    }

    private static void refusedChangesNothing() {
        t.says("one that can't be done is REFUSED, and changes nothing");
        DuskDebts x = worked(Coasts.BAY, "end 1;lamp rose 3;pay 0 1;");
        String before = Coasts.all(x);
        done(x, "pay 0 2;pay 1 1;end 1;end 0;lamp rose 5;lamp gold 1;hand 1 0;hand 0 0;", 0, 8);
        t.same("nothing is changed", Coasts.all(x), before);
        done(x, "pay 0 99;pay 0 1;pay 0 99;", 1, 2);
    }

    private static void stepsBegun() {
        t.says("200 STEPS at most are begun by one WORK, what would come behind is left out");
        String coast = "creditor 0 0;debt 0 gold 99 0 0;";
        String most = "again 19[again 9[dusk;];];";
        done(Coasts.on(coast), most + "dusk;".repeat(8), 179, 0);
        done(Coasts.on(coast), most + "dusk;".repeat(9), 180, 0);
        DuskDebts x = Coasts.on(coast);
        done(x, most + "dusk;".repeat(10), 180, 0);
        t.same("the 201st is left out", x.told(4), 180);
        done(Coasts.on(coast), most + "dusk;".repeat(9) + "end 0;end 0;", 180, 0);
        done(Coasts.on(coast), "again 20[again 9[dusk;];];", 179, 0);
        DuskDebts next = Coasts.on(coast);
        done(next, most + "dusk;".repeat(12), 180, 0);
        done(next, "dusk;dusk;", 2, 0);
        t.same("the next work begins anew", next.told(4), 182);

        t.says("(REFUSED ones, too)");
        String refused = "again 19[again 9[end 0;];];";
        done(Coasts.on(coast), refused + "dusk;".repeat(9), 9, 171);
        done(Coasts.on(coast), refused + "dusk;".repeat(10), 9, 171);
        done(Coasts.on(coast), refused + "end 0;" + "dusk;".repeat(9), 8, 172);
    }

    private static void againsBegun() {
        t.says("(an again, too, each time it is come to)");
        String coast = "creditor 0 0;";
        String most = "again 18[" + "again0[];".repeat(11) + "];";
        done(Coasts.on(coast), most + "dusk;", 1, 0);
        done(Coasts.on(coast), most + "dusk;dusk;", 1, 0);
        done(Coasts.on(coast), most + "again0[];dusk;", 0, 0);
        done(Coasts.on(coast), "again 20[" + "again0[];".repeat(10) + "];dusk;", 0, 0);
        done(Coasts.on(coast), "again 20[" + "again0[];".repeat(9) + "];dusk;", 1, 0);
        done(Coasts.on(coast), "again 20[again 20[again 20[again 20[again 20[again 20[];];];];];];dusk;", 0, 0);

        t.says("again N: 0 to 20 times");
        done(Coasts.on(coast), "again 0[dusk;dusk;];dusk;", 1, 0);
        done(Coasts.on(coast), "again 1[dusk;dusk;];", 2, 0);
        done(Coasts.on(coast), "again 20[dusk;dusk;];dusk;", 41, 0);
        done(Coasts.on(coast), "again 3[again 2[dusk;];dusk;];", 9, 0);
        done(Coasts.on(coast), "again 20[];dusk;", 1, 0);
    }

    private static void pay() {
        t.says("pay: N parts of the DEBT's COLOUR leave the light that is left, and what is owed (REFUSED, if either is less)");
        String coast = "creditor 0 0;debt 0 gold 5 0 9;debt 0 rose 9 0 9;dusk 9 5 0 0;";
        done(Coasts.on(coast), "pay 0 6;", 0, 1);
        DuskDebts owed = Coasts.on(coast);
        done(owed, "pay 0 5;", 1, 0);
        t.same("left, owed, paid", owed.light(0, 0) * 100 + owed.debt(0, 2) * 10 + owed.debt(0, 6), 405);
        done(owed, "pay 0 1;", 0, 1);
        done(Coasts.on(coast), "pay 1 6;", 0, 1);
        DuskDebts lit = Coasts.on(coast);
        done(lit, "pay 1 5;", 1, 0);
        t.same("left, owed, paid", lit.light(1, 0) * 100 + lit.debt(1, 2) * 10 + lit.debt(1, 6), 45);
        done(lit, "pay 1 1;", 0, 1);
        t.same("the other colour stays", lit.light(0, 0), 9);
        done(lit, "dusk;pay 1 4;", 2, 0);
        t.same("paid in all by now", lit.debt(1, 6), 9);
        DuskDebts full = Coasts.on("creditor 0 0;debt 0 gold 99 0 9;lamp gold 99;");
        done(full, "lamp gold 99;pay 0 99;", 2, 0);
        t.same("99 paid", full.light(0, 4), 99);
    }

    private static void end() {
        t.says("end: all that is owed likewise (REFUSED, if that is nothing)");
        String coast = "creditor 0 0;debt 0 gold 5 0 9;debt 0 rose 6 0 9;dusk 5 5 0 0;";
        DuskDebts x = Coasts.on(coast);
        done(x, "end 0;", 1, 0);
        t.same("just as much light", x.light(0, 0) + x.debt(0, 2), 0);
        done(x, "end 0;dusk;end 0;", 1, 2);
        done(x, "end 1;", 0, 1);
        t.same("one part of light too few", x.debt(1, 2) * 10 + x.light(1, 0), 65);
        done(x, "pay 1 1;end 1;", 1, 1);
        done(x, "dusk;end 1;", 2, 0);
    }

    private static void lamp() {
        t.says("lamp: N parts of K more are there in this DUSK, and are LENT (REFUSED, if lamps have not so many any more)");
        DuskDebts x = Coasts.on("lamp grey 10;dusk 0 0 0 3;");
        done(x, "lamp grey 11;", 0, 1);
        done(x, "lamp rose 1;", 0, 1);
        done(x, "lamp grey 4;", 1, 0);
        t.same("there, still, lent", x.light(3, 0) * 10000 + x.light(3, 1) * 100 + x.light(3, 2), 70604);
        done(x, "lamp grey 7;", 0, 1);
        done(x, "dusk;", 1, 0);
        t.same("in this dusk only; lent for good", x.light(3, 0) * 10000 + x.light(3, 1) * 100 + x.light(3, 2), 30604);
        done(x, "lamp grey 6;lamp grey 1;", 1, 1);
        t.same("just all", x.light(3, 0) * 10000 + x.light(3, 1) * 100 + x.light(3, 2), 90010);
        DuskDebts none = Coasts.on("lamp gold 0;");
        done(none, "lamp gold 1;", 0, 1);
    }

    private static void hand() {
        t.says("hand: D is owed to C now (REFUSED, if it is so, or nothing is owed)");
        DuskDebts x = Coasts.on("creditor 0 0;creditor 1 1;debt 0 gold 5 0 9;dusk 5 0 0 0;");
        done(x, "hand 0 0;", 0, 1);
        done(x, "hand 0 1;", 1, 0);
        t.same("to whom now", x.debt(0, 0), 1);
        done(x, "hand 0 1;", 0, 1);
        done(x, "hand 0 0;hand 0 1;", 2, 0);
        done(x, "pay 0 4;hand 0 0;", 2, 0);
        done(x, "end 0;hand 0 1;hand 0 0;", 1, 2);
        t.same("to whom", x.debt(0, 0), 0);
        t.same("nothing of it", x.creditor(0, 2) + x.creditor(0, 3), 0);
    }

    private static void lastDusk() {
        t.says("dusk (REFUSED on DUSK 200)");
        DuskDebts x = worked("creditor 0 0;debt 0 gold 3 1 60;lamp gold 9;dusk 1 0 0 0;dusk 2 0 0 0;", "again 20[again 9[dusk;];];", "again 20[dusk;];");
        t.same("dusk 199", x.told(4), 199);
        done(x, "dusk;", 1, 0);
        t.same("dusk 200", x.told(4), 200);
        done(x, "lamp gold 4;", 1, 0);
        String before = Coasts.all(x);
        done(x, "dusk;dusk;", 0, 2);
        t.same("it changes nothing", Coasts.all(x), before);
        t.same("light is not lost", x.light(0, 0), 5);
        done(x, "pay 0 3;dusk;", 1, 1);
        x.undo();
        x.undo();
        x.undo();
        t.same("undone", x.undo(), 2);
        t.same("dusk 199 again", x.told(4), 199);
        done(x, "dusk;dusk;", 1, 1);
    }

    private static void grows() {
        t.says("each DEBT of which something is owed GROWS (by what is owed then)");
        DuskDebts x = Coasts.on("creditor 0 0;debt 0 gold 32 8 9;debt 0 gold 1 8 9;debt 0 rose 2 8 9;dusk 17 0 0 0;");
        done(x, "pay 0 16;end 1;dusk;", 3, 0);
        t.same("by what is owed then", x.debt(0, 2), 24);
        t.same("not one that is ended", x.debt(1, 2), 0);
        t.same("each", x.debt(2, 2), 3);
        Coasts.law(x, "5");
        done(x, "dusk;", 1, 0);
        t.same("by the law", x.debt(0, 2) * 100 + x.debt(1, 2) * 10 + x.debt(2, 2), 2908);
    }

    private static void mostOwed() {
        t.says("(9,999 at most)");
        for (int parts = 97; parts <= 99; parts++) {
            DuskDebts x = Coasts.on("creditor 0 0;debt 0 gold " + parts + " 0 0;");
            Coasts.law(x, "99");
            done(x, "again 5[again 20[dusk;];];", 100, 0);
            t.same("behind 100 dusks", x.debt(0, 2), 9900 + parts);
            done(x, "dusk;", 1, 0);
            t.same("9,999 at most", x.debt(0, 2), 9999);
            done(x, "dusk;", 1, 0);
            t.same("9,999 at most", x.told(5), 9999);
            t.same("of the colour", x.light(0, 3), 9999);
            t.same("to him", x.creditor(0, 3), 9999);
            t.same("more than 999", x.gets(0, 0, 999, 0) + x.gets(0, 0, 999, 1), 1998);
        }
    }

    private static void defaults() {
        t.says("one of which something is owed as DUSK T ends is in DEFAULT from then on (for good)");
        String coast = "creditor 0 0;debt 0 gold 2 0 #;dusk 1 0 0 0;";
        for (int term : new int[] {0, 1, 7, 60}) {
            String ahead = "again " + term / 4 + "[again 4[dusk;];];again " + term % 4 + "[dusk;];";
            DuskDebts x = worked(coast.replace("#", Integer.toString(term)), ahead);
            t.same("dusk T", x.told(4), term);
            t.same("not yet", x.debt(0, 5) + x.told(6), 0);
            done(x, "pay 0 1;dusk;", 2, 0);
            t.same("as dusk T ends", x.debt(0, 5) + x.told(6), 2);
            done(x, "end 0;dusk;dusk;", 3, 0);
            t.same("for good", x.debt(0, 5) + x.told(6), 2);
            x.undo();
            x.undo();
            t.same("but not if undone", x.debt(0, 5) + x.told(6), 0);
        }
        DuskDebts inTime = worked("creditor 0 0;debt 0 gold 1 16 0;dusk 1 0 0 0;", "end 0;again 20[dusk;];");
        t.same("ended in dusk T", inTime.debt(0, 5) + inTime.told(6), 0);
        DuskDebts late = worked("creditor 0 0;debt 0 gold 1 0 0;dusk 1 0 0 0;", "dusk;end 0;");
        t.same("ended one dusk late", late.debt(0, 5) * 10 + late.told(5), 10);
    }

    private static void light() {
        t.says("the DUSK is one more, what is left of light is lost, its own light is there (DUSK by DUSK as told)");
        DuskDebts x = Coasts.on("creditor 0 0;debt 0 gold 9 0 9;dusk 40 1 0 7;dusk 3 0 0 0;");
        done(x, "pay 0 1;dusk;", 2, 0);
        t.same("dusk 1", x.told(4), 1);
        t.same("its own light", x.light(0, 0) * 1000 + x.light(1, 0) * 100 + x.light(2, 0) * 10 + x.light(3, 0), 3000);
        done(x, "dusk;", 1, 0);
        t.same("the first again, as told", x.light(0, 0) * 1000 + x.light(1, 0) * 100 + x.light(2, 0) * 10 + x.light(3, 0), 40107);
    }

    // ---- promises 5, 8, 9, 41 to 44 ----

    private static void stepsDone() {
        t.says("how many STEPS were done (agains not counted, nor REFUSED ones)");
        DuskDebts x = Coasts.on(Coasts.BAY);
        done(x, "again 2[again 0[dusk;];again 1[pay 0 1;pay 0 99;];];hand 0 0;", 2, 3);
        done(x, "", 0, 0);
        done(x, "again 7[];", 0, 0);

        t.says("or the FAULT less 10 (none is)");
        String before = Coasts.all(x);
        t.text("a fault behind steps", Coasts.work(x, "pay 0 1;dusk;lamp rose 1;x;"), -9, x, 25);
        t.text("a fault behind steps", Coasts.work(x, "pay 0 1;dusk;lamp rose 1;pay 0 100;"), -8, x, 31);
        t.text("a fault behind steps", Coasts.work(x, "dusk;" + "again 1[".repeat(7)), -7, x, 53);
        t.same("none is done", Coasts.all(x), before);
        t.same("no work more", x.count(2), 3);
    }

    private static void sixteenWorks() {
        t.says("-20 ahead of that (nothing is read, there is no FAULT, the TAPE is empty then): 16 WORKS are there that were not undone");
        DuskDebts x = Coasts.on(Coasts.BAY);
        for (int i = 1; i <= 15; i++) {
            Coasts.work(x, "dusk;");
        }
        t.text("a work with a fault is none", Coasts.work(x, "zzz;"), -9, x, 0);
        t.text("the sixteenth", Coasts.work(x, "dusk;"), 1, x, -1);
        t.same("sixteen", x.count(2), 16);
        t.text("a fault ahead", Coasts.law(x, ""), -9, x, 0);
        String before = Coasts.all(x);
        t.text("a seventeenth", Coasts.work(x, "dusk;"), -20, x, -1);
        t.same("the tape is empty", x.count(1), 0);
        Coasts.law(x, "");
        t.text("ahead of a fault", Coasts.work(x, "zzz;"), -20, x, -1);
        t.text("also without steps", Coasts.work(x, ""), -20, x, -1);
        Coasts.feed(x, "dusk;");
        t.refuses("a wrong length is refused as ever", Coasts.WRONG, () -> x.work(21));
        t.same("the tape stays then", x.count(1), 20);
        t.same("nothing is done", Coasts.all(x), before);
        t.same("sixteen", x.count(2), 16);
        t.same("the seventeenth by these bytes", x.work(5), -20);
        t.same("one is undone", x.undo(), 15);
        t.text("room for one", Coasts.work(x, "dusk;"), 1, x, -1);
        t.text("and for no more", Coasts.work(x, "dusk;"), -20, x, -1);
        t.same("other texts are read", Coasts.law(x, "1") + Coasts.book(x, "0gold1;"), 2);
        t.same("a new coast has room", Coasts.coast(x, Coasts.BAY) + Coasts.work(x, "dusk;"), 4);
    }

    private static void undo() {
        t.says("The latest WORK that was done is undone: how many are left; -1: there is none");
        DuskDebts x = Coasts.on(Coasts.BAY);
        String first = Coasts.all(x);
        t.same("none", x.undo(), -1);
        Coasts.work(x, "pay 0 1;pay 1 2;lamp rose 7;end 2;hand 0 2;dusk;dusk;");
        String second = Coasts.all(x);
        Coasts.work(x, "");
        Coasts.work(x, "again 5[dusk;];end 1;");
        t.text("a work with a fault is none to undo", Coasts.work(x, "end 0;x"), -9, x, 6);
        t.same("two are left", x.undo(), 2);
        t.same("as it was", Coasts.all(x), second);
        t.same("one is left", x.undo(), 1);
        t.same("the work without steps", Coasts.all(x), second);
        t.same("none is left", x.undo(), 0);
        t.same("as at first", Coasts.all(x), first);
        t.same("there is none", x.undo(), -1);
        t.same("as at first", Coasts.all(x), first);
    }

    private static void refusedSteps() {
        t.says("8 STEPS REFUSED by the latest WORK (0 ahead of any, behind undo(), restore())");
        DuskDebts x = Coasts.on(Coasts.BAY);
        t.same("ahead of any", x.told(8), 0);
        done(x, "pay 0 99;pay 0 99;", 0, 2);
        done(x, "pay 0 99;", 0, 1);
        x.undo();
        t.same("behind undo()", x.told(8), 0);
        done(x, "again 20[pay 0 99;];", 0, 20);
        x.image();
        t.same("an image leaves it", x.told(8), 20);
        Coasts.law(x, "1");
        Coasts.book(x, "0gold1;");
        t.same("other texts leave it", x.told(8), 20);
        done(x, "pay 0 99;dusk;", 1, 1);
        x.restore();
        t.same("behind restore()", x.told(8), 0);
        done(x, "pay 0 99;", 0, 1);
        done(x, "dusk;", 1, 0);
    }

    private static void threeImages() {
        t.says("An IMAGE of all that WORK changes, and of the WORKS that can be undone: how many there are; -1: there are 3");
        DuskDebts x = Coasts.on(Coasts.BAY);
        String[] states = new String[3];
        for (int i = 0; i < 3; i++) {
            Coasts.work(x, "pay 0 1;hand 0 " + (i + 1) % 3 + ";lamp rose 1;dusk;");
            states[i] = Coasts.all(x);
            t.same("an image", x.image(), i + 1);
        }
        Coasts.work(x, "dusk;");
        String last = Coasts.all(x);
        t.same("there are 3", x.image(), -1);
        t.same("there are 3", x.count(0), 3);
        t.same("all is as it was", Coasts.all(x), last);
        for (int i = 2; i >= 0; i--) {
            t.same("the latest is gone", x.restore(), i);
            t.same("all is as in it", Coasts.all(x), states[i]);
            t.same("the works too", x.count(2), i + 1);
        }
        t.same("undo", x.undo(), 0);
        t.same("as at first", Coasts.all(x), Coasts.all(Coasts.on(Coasts.BAY)));
    }

    private static void restore() {
        t.says("All is as in the latest IMAGE, which is gone: how many are left; -1: there is none");
        DuskDebts x = Coasts.on(Coasts.BAY);
        t.same("there is none", x.restore(), -1);
        Coasts.work(x, "dusk;");
        String state = Coasts.all(x);
        t.same("there is none", x.restore(), -1);
        t.same("nothing is done", Coasts.all(x) + x.count(2), state + 1);
        x.image();
        for (int i = 0; i < 15; i++) {
            Coasts.work(x, "dusk;");
        }
        t.same("full of works", Coasts.work(x, "dusk;"), -20);
        t.same("none is left", x.restore(), 0);
        t.same("one work", Coasts.all(x) + x.count(2), state + 1);
        t.same("room for works", Coasts.work(x, "dusk;"), 1);
        x.image();
        x.undo();
        x.undo();
        t.same("works that were undone since are there again", x.restore() * 10 + x.count(2), 2);
        t.same("and can be undone", x.undo(), 1);
        t.same("as it was", Coasts.all(x), state);
        x.image();
        Coasts.law(x, "7");
        Coasts.book(x, "0gold1;");
        Coasts.feed(x, "dusk;");
        x.restore();
        t.same("no image keeps the law, the book, the tape", x.would(0, 0, 0, 0) * 1000 + x.told(7) * 100 + x.count(1), 7120);
    }

    private static void refusedCalls() {
        t.says("How many calls were refused: 0 NoSuchElementException, 1 IllegalArgumentException; NONE for others. (No IMAGE keeps it.)");
        DuskDebts x = Coasts.on(Coasts.BAY);
        t.same("none", x.status(0) + x.status(1), 0);
        for (int other : new int[] {-1, 2, 3, Integer.MIN_VALUE, Integer.MAX_VALUE}) {
            t.same("others", x.status(other), -1);
        }
        x.image();
        Coasts.work(x, "pay 0 99;");
        t.refuses("a creditor that is none", Coasts.NO_SUCH, () -> x.creditor(3, 9));
        t.refuses("a what that is none", Coasts.WRONG, () -> x.told(9));
        t.refuses("a what that is none", Coasts.WRONG, () -> x.told(-1));
        t.same("texts with faults are not refused so", Coasts.coast(x, "x") + Coasts.law(x, ""), -18);
        t.same("nor are -1s", x.status(7) + x.count(7), -2);
        t.same("one of none such", x.status(0), 1);
        t.same("two of wrong ones", x.status(1), 2);
        x.undo();
        x.restore();
        t.same("no image keeps it", x.status(0) * 10 + x.status(1), 12);
        Coasts.coast(x, "");
        t.same("no coast forgets it", x.status(0) * 10 + x.status(1), 12);
        DuskDebts other = new DuskDebts();
        t.same("another object has its own", other.status(0) + other.status(1), 0);
    }

    private static void counts() {
        t.says("0 IMAGES, 1 bytes of the TAPE, 2 WORKS that can be undone; NONE for others");
        DuskDebts x = Coasts.on(Coasts.BAY);
        for (int other : new int[] {-1, 3, 4, Integer.MIN_VALUE, Integer.MAX_VALUE}) {
            t.same("others", x.count(other), -1);
        }
        t.same("none", x.count(0) + x.count(1) + x.count(2), 0);
        x.image();
        x.image();
        Coasts.work(x, "");
        x.feed(0, 0, 0, 0, 0);
        t.same("images", x.count(0), 2);
        t.same("bytes", x.count(1), 20);
        t.same("works", x.count(2), 1);
        t.same("others are no refusal", x.status(1), 0);
    }
}
