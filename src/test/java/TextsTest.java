/** Promises 1 to 7, 44: the tape, the four texts, their faults and places. */
public final class TextsTest {
    private static final Coasts t = new Coasts("TextsTest");

    public static void main(String[] args) {
        newObject();
        tape();
        coastFaults();
        coastWhole();
        tooMany();
        lawFaults();
        workFaults();
        bookFaults();
        lengths();
        t.end();
    }

    private static void newObject() {
        DuskDebts x = new DuskDebts();
        for (int what = 0; what <= 8; what++) {
            t.same("told of a new object", x.told(what), 0);
        }
        t.same("NONE", DuskDebts.NONE, -1);
        t.same("fault of a new object", x.fault(), -1);
        for (int what = 0; what <= 2; what++) {
            t.same("count of a new object", x.count(what), 0);
        }
        t.same("image of a new object", x.image(), 1);
        t.same("undo of a new object", x.undo(), -1);
    }

    private static void tape() {
        DuskDebts x = new DuskDebts();
        for (int i = 1; i <= 30; i++) {
            t.same("feed", x.feed(0x20202020, 0x20202020, 0x20202020, 0x20202020, 0x20202020), 20 * i);
        }
        t.same("feed beyond 600", x.feed(0, 0, 0, 0, 0), -1);
        t.same("bytes", x.count(1), 600);
        t.same("600 blanks are a coast", x.coast(600), 0);
        t.same("empty then", x.count(1), 0);
        t.same("the highest byte first", x.feed(0x666f6720, 0x373b2020, 0x20202020, 0x20202020, -1), 20);
        t.text("fog 7;", x.coast(16), 0, x, -1);
        t.same("its fog", x.settle(0, 0, 16, 1, 0), 0);
        t.same("its fog when waiting is all there is to fear", x.now(16, 0, 0, 1), true);
        x.feed(0x666f6720, 0x373b2020, 0x20202020, 0x20202020, -1);
        t.text("a byte of 255", x.coast(20), -9, x, 16);
    }

    private static void coastFault(String text, int kind, int place) {
        DuskDebts x = Coasts.on(Coasts.BAY);
        t.text("coast " + text, Coasts.coast(x, text), kind - 10, x, place);
        t.same("debts stay", x.told(1), 3);
        t.same("parts stay", x.told(5), 36);
        t.same("the tape is empty", x.count(1), 0);
    }

    private static void coastFaults() {
        coastFault("x", 1, 0);
        coastFault(";", 1, 0);
        coastFault("fog", 1, 3);
        coastFault("fog  ", 1, 5);
        coastFault("fog 3", 1, 5);
        coastFault("fog 3  ", 1, 7);
        coastFault("fog 3 4;", 1, 6);
        coastFault("fog x;", 1, 4);
        coastFault("fog -1;", 1, 4);
        coastFault("fo 3;", 1, 0);
        coastFault("fogs 3;", 1, 0);
        coastFault("Fog 3;", 1, 0);
        coastFault("  fog 17;", 2, 6);
        coastFault("fog 99999999999999999999;", 2, 4);
        coastFault("fog 4294967296;", 2, 4);
        coastFault("fog 1;;", 1, 6);
        coastFault("fog 1;gold", 1, 6);
        coastFault("fog 1 ; fog 3", 1, 13);
        coastFault("creditor 19 20;creditor 20 0;", 2, 24);
        coastFault("creditor 19 21;", 2, 12);
        coastFault("creditor 1;", 1, 10);
        coastFault("debt 0 gold 1 1 1;", 2, 5);
        coastFault("debt 0 gold 1 1 1;creditor 0 0;", 2, 5);
        coastFault("creditor 0 0;debt 1 gold 1 1 1;", 2, 18);
        coastFault("creditor 0 0;debt 0 0 1 1 1;", 1, 20);
        coastFault("creditor 0 0;debt 0 golden 1 1 1;", 1, 20);
        coastFault("creditor 0 0;debt 0 gold 0 1 1;", 2, 25);
        coastFault("creditor 0 0;debt 0 gold 100 1 1;", 2, 25);
        coastFault("creditor 0 0;debt 0 gold 99 17 1;", 2, 28);
        coastFault("creditor 0 0;debt 0 gold 99 16 61;", 2, 31);
        coastFault("dusk 0 0 0 41;", 2, 11);
        coastFault("dusk 0 0 0;", 1, 10);
        coastFault("ridge 0 21;", 2, 8);
        coastFault("ridge 20 1;", 2, 6);
        coastFault("lamp gold 100;", 2, 10);
        coastFault("wedding rose 0 0;", 2, 13);
        coastFault("wedding rose 41 0;", 2, 13);
        coastFault("wedding rose 40 61;", 2, 16);
        coastFault("creditor 0 0;owes 1 0 1;", 2, 18);
        coastFault("creditor 0 0;owes 0 1 1;", 2, 20);
        coastFault("creditor 0 0;owes 0 0 1;", 2, 20);
        coastFault("creditor 0 0;owes 0 x 1;", 1, 20);
        coastFault("creditor 0 0;creditor 0 0;owes 0 1 0;", 2, 35);
        coastFault("creditor 0 0;creditor 0 0;owes 0 1 100;", 2, 35);
        coastFault("fog 1;\n", 1, 6);
    }

    private static void coastWhole() {
        DuskDebts x = new DuskDebts();
        t.text("blanks nearly nowhere", Coasts.coast(x, "creditor19 20;debt0gold99 16 60;dusk40 0 00 007;fog16;"), 1, x, -1);
        t.same("cell", x.creditor(0, 0), 19);
        t.same("eyes", x.creditor(0, 1), 20);
        t.same("parts", x.debt(0, 2), 99);
        t.same("rate", x.debt(0, 3), 16);
        t.same("term", x.debt(0, 4), 60);
        t.same("light", x.light(3, 0), 7);
        t.text("blanks everywhere", Coasts.coast(x, "   creditor   0  0 ;  debt 0   grey 1 0 0 ;   "), 1, x, -1);
        t.same("light is gone with its coast", x.light(3, 0), 0);
        t.same("colour", x.debt(0, 1), 3);
        t.text("the last counts", Coasts.coast(x, "lamp green 5;lamp green 99;ridge 0 3;ridge 0 0;fog 3;fog 16;"), 0, x, -1);
        t.same("the last lamp", x.light(2, 1), 99);
        t.same("the last ridge", x.eyes(1), 1);
        t.same("the last fog", x.decade(3, 9, 2), 9);
        t.text("no clauses", Coasts.coast(x, ""), 0, x, -1);
        t.same("no lamp", x.light(2, 1), 0);
        t.same("no fog", x.decade(3, 9, 2), 0);
        t.same("no ridge", x.eyes(19), 1);
    }

    private static void tooMany() {
        DuskDebts x = new DuskDebts();
        t.text("six creditors", Coasts.coast(x, "creditor0 0;".repeat(6)), 0, x, -1);
        t.text("a seventh", Coasts.coast(x, "creditor0 0;".repeat(6) + " creditor 20 0;"), -7, x, 73);
        String debts = "creditor0 0;" + "debt0gold1 1 1;".repeat(10);
        t.text("ten debts", Coasts.coast(x, debts), 10, x, -1);
        t.text("an eleventh", Coasts.coast(x, debts + "debt 9"), -7, x, 162);
        t.text("twelve dusks", Coasts.coast(x, "dusk1 2 3 4;".repeat(12)), 0, x, -1);
        t.same("dusks", x.told(2), 12);
        t.text("a thirteenth", Coasts.coast(x, "dusk1 2 3 4;".repeat(13)), -7, x, 144);
        t.text("six weddings", Coasts.coast(x, "wedding gold 1 1;".repeat(6)), 0, x, -1);
        t.text("a seventh wedding", Coasts.coast(x, "wedding gold 1 1;".repeat(7)), -7, x, 102);
        t.text("sixty clauses", Coasts.coast(x, "fog1;".repeat(60)), 0, x, -1);
        t.text("sixty and blanks", Coasts.coast(x, "fog1;".repeat(60) + "  "), 0, x, -1);
        t.text("a 61st", Coasts.coast(x, "fog1;".repeat(60) + " fog1;"), -7, x, 301);
        for (String clause : new String[] {"ridge 0 0;", "lamp gold 0;", "dusk 0 0 0 0;", "creditor 0 0;", "wedding gold 1 1;", "owes 0 1 1;", "debt 0"}) {
            t.text("a 61st: " + clause, Coasts.coast(x, "fog1;".repeat(60) + clause), -7, x, 300);
        }
        t.text("a 61st with a wrong number", Coasts.coast(x, "fog1;".repeat(60) + "fog99;"), -7, x, 300);
        t.text("a 61st that is no clause", Coasts.coast(x, "fog1;".repeat(60) + "fig1;"), -9, x, 300);
    }

    private static void lawFault(String text, int kind, int place) {
        DuskDebts x = Coasts.on(Coasts.BAY);
        Coasts.law(x, "7");
        t.text("law " + text, Coasts.law(x, text), kind - 10, x, place);
        t.same("the law stays", x.would(1, 1, 1, 1), 7);
    }

    private static void lawFaults() {
        lawFault("", 1, 0);
        lawFault("   ", 1, 3);
        lawFault("1 2", 1, 2);
        lawFault("1+", 1, 2);
        lawFault("1+ ", 1, 3);
        lawFault("+1", 1, 0);
        lawFault("1**2", 1, 2);
        lawFault("(1", 1, 2);
        lawFault("(1]", 1, 2);
        lawFault("1)", 1, 1);
        lawFault("1;", 1, 1);
        lawFault("()", 1, 1);
        lawFault("1000", 2, 0);
        lawFault("1+ 1000 +", 2, 3);
        lawFault("part", 1, 0);
        lawFault("partsrate", 1, 0);
        lawFault("parts rate", 1, 6);
        lawFault("least", 1, 5);
        lawFault("least(1,2)", 1, 5);
        lawFault("least[1]", 1, 7);
        lawFault("least[1,2", 1, 9);
        lawFault("least[1,2)", 1, 9);
        lawFault("most[,2]", 1, 5);
        lawFault("((((((1+(2))))))", 3, 8);
        lawFault("(((((( least [1,2]))))))", 3, 7);
        lawFault("most[1,most[1,most[1,most[1,most[1,most[1,most", 3, 42);
        lawFault("((((((1(", 1, 7);
        DuskDebts x = new DuskDebts();
        t.text("six open", Coasts.law(x, "((((((1))))))+least[1,(((((2)))))]"), 1, x, -1);
        t.same("and reckoned", x.would(0, 0, 0, 0), 2);
    }

    private static void workFault(String text, int kind, int place) {
        DuskDebts x = Coasts.on(Coasts.BAY);
        t.text("work " + text, Coasts.work(x, text), kind - 10, x, place);
        t.same("no work is done", x.count(2), 0);
        t.same("nothing is paid", x.told(5), 36);
        t.same("no dusk is gone", x.told(4), 0);
    }

    private static void workFaults() {
        workFault("pay", 1, 3);
        workFault("pay 0", 1, 5);
        workFault("pay 0 1", 1, 7);
        workFault("pay 0 100;", 2, 6);
        workFault("pay 0 0;", 2, 6);
        workFault("dusk;pay 3 1;", 2, 9);
        workFault("end;", 1, 3);
        workFault("lamp rose 100;", 2, 10);
        workFault("lamp 1 1;", 1, 5);
        workFault("hand 0;", 1, 6);
        workFault("hand 3 0;", 2, 5);
        workFault("hand 0 3;", 2, 7);
        workFault("dusk 1;", 1, 5);
        workFault("dusk;]", 1, 5);
        workFault("again [dusk;];", 1, 6);
        workFault("again 21[dusk;];", 2, 6);
        workFault("again 2 dusk;", 1, 8);
        workFault("again 2[dusk];", 1, 12);
        workFault("again 2[dusk;]", 1, 14);
        workFault("again 2[dusk;", 1, 13);
        workFault("again 2[dusk;  ", 1, 15);
        workFault("again 2[;];", 1, 8);
        workFault("again1[again1[again1[again1[again1[again1[ again 1", 3, 43);
        DuskDebts x = Coasts.on(Coasts.BAY);
        t.text("six agains", Coasts.work(x, "again1[again1[again1[again1[again1[again1[dusk;];];];];];];again 0[];"), 1, x, -1);
        DuskDebts bare = new DuskDebts();
        t.text("no debt to pay", Coasts.work(bare, "pay 0 1;"), -8, bare, 4);
    }

    private static void bookFault(String text, int kind, int place) {
        DuskDebts x = Coasts.on(Coasts.BAY);
        Coasts.book(x, "0 gold 12;");
        t.text("book " + text, Coasts.book(x, text), kind - 10, x, place);
        t.same("the book stays", x.told(7), 1);
        t.same("what it says stays", x.moved(), 1);
    }

    private static void bookFaults() {
        bookFault("x", 1, 0);
        bookFault("0", 1, 1);
        bookFault("0 gold", 1, 6);
        bookFault("0 gold 1", 1, 8);
        bookFault("0 gold 1,", 1, 8);
        bookFault("61 gold 1;", 2, 0);
        bookFault("60 gold 41;", 2, 8);
        bookFault("0 golds 1;", 1, 2);
        String ten = "0gold1;".repeat(10);
        bookFault(ten + " 0gold1;", 3, 71);
        bookFault(ten + "61gold1;", 2, 70);
        bookFault(ten + "gold", 1, 70);
        DuskDebts x = new DuskDebts();
        t.text("ten lines", Coasts.book(x, ten + " "), 10, x, -1);
        t.text("no lines", Coasts.book(x, " "), 0, x, -1);
    }

    private static void lengths() {
        DuskDebts x = new DuskDebts();
        Coasts.feed(x, "y");
        t.same("a fault ahead", x.coast(1), -9);
        t.refuses("coast(1) of an empty tape", Coasts.WRONG, () -> x.coast(1));
        t.refuses("coast(-1)", Coasts.WRONG, () -> x.coast(-1));
        t.same("the fault stays", x.fault(), 0);
        for (int i = 0; i < 8; i++) {
            Coasts.feed(x, " ".repeat(20));
        }
        t.refuses("law(151)", Coasts.WRONG, () -> x.law(151));
        t.refuses("work(151)", Coasts.WRONG, () -> x.work(151));
        t.refuses("book(101)", Coasts.WRONG, () -> x.book(101));
        t.refuses("coast(161)", Coasts.WRONG, () -> x.coast(161));
        t.refuses("law(-1)", Coasts.WRONG, () -> x.law(-1));
        t.refuses("work(-1)", Coasts.WRONG, () -> x.work(-1));
        t.refuses("book(-1)", Coasts.WRONG, () -> x.book(-1));
        t.same("the tape stays", x.count(1), 160);
        t.same("refusals are counted", x.status(1), 9);
        t.same("150 blanks are a work", x.work(150), 0);
        Coasts.feed(x, "0" + " ".repeat(149));
        t.same("a law of 150", x.law(150), 1);
        Coasts.feed(x, " ".repeat(100));
        t.same("a book of 100", x.book(100), 0);
    }
}
