/** Promises 9 to 43: what is refused, by which exception, and that it is counted. */
public final class RefusalsTest {
    private static final Coasts t = new Coasts("RefusalsTest");
    private static final DuskDebts x = Coasts.on(Coasts.BAY);
    private static int noSuch = 0;
    private static int wrong = 0;

    private static void none(String what, Coasts.Call call) {
        noSuch++;
        t.refuses(what, Coasts.NO_SUCH, call);
        t.same("status(0) behind " + what, x.status(0), noSuch);
        t.same("status(1) behind " + what, x.status(1), wrong);
    }

    private static void bad(String what, Coasts.Call call) {
        wrong++;
        t.refuses(what, Coasts.WRONG, call);
        t.same("status(0) behind " + what, x.status(0), noSuch);
        t.same("status(1) behind " + what, x.status(1), wrong);
    }

    private static void fine(String what, Coasts.Call call) {
        t.refuses(what, 0, call);
    }

    public static void main(String[] args) {
        whats();
        noSuchOnes();
        ranges();
        rangesOfChance();
        t.same("nothing changed", x.told(5), 36);
        t.same("no coast forgets them", Coasts.coast(x, "") + x.status(0) + x.status(1), noSuch + wrong);
        t.end();
    }

    private static void whats() {
        for (int what : new int[] {-1, Integer.MIN_VALUE, Integer.MAX_VALUE, 9}) {
            bad("told", () -> x.told(what));
            bad("creditor", () -> x.creditor(0, what));
            bad("debt", () -> x.debt(0, what));
            bad("light", () -> x.light(0, what));
            bad("best", () -> x.best(what));
            bad("chairs", () -> x.chairs(0, what));
            bad("gets", () -> x.gets(0, 0, 0, what));
            bad("struck", () -> x.struck(what));
            bad("look", () -> x.look(what));
            bad("settle", () -> x.settle(0, 0, 0, 0, what));
            bad("bids", () -> x.bids(0, 0, 0, what));
            bad("decade", () -> x.decade(0, 1, what));
            bad("span", () -> x.span(0, 1, 1, what));
        }
        fine("told(8)", () -> x.told(8));
        bad("creditor(0, 4)", () -> x.creditor(0, 4));
        bad("debt(0, 7)", () -> x.debt(0, 7));
        bad("light(0, 5)", () -> x.light(0, 5));
        bad("best(2)", () -> x.best(2));
        bad("chairs(0, 2)", () -> x.chairs(0, 2));
        bad("gets(.., 2)", () -> x.gets(0, 0, 0, 2));
        bad("struck(2)", () -> x.struck(2));
        bad("look(3)", () -> x.look(3));
        bad("settle(.., 2)", () -> x.settle(0, 0, 0, 0, 2));
        bad("bids(.., 3)", () -> x.bids(0, 0, 0, 3));
        bad("decade(.., 4)", () -> x.decade(0, 1, 4));
        bad("span(.., 3)", () -> x.span(0, 1, 1, 3));
    }

    private static void noSuchOnes() {
        for (int who : new int[] {-1, 3, Integer.MIN_VALUE, Integer.MAX_VALUE}) {
            none("creditor", () -> x.creditor(who, 0));
            none("creditor, ahead of others", () -> x.creditor(who, 99));
            none("debt", () -> x.debt(who, 0));
            none("debt, ahead of others", () -> x.debt(who, 99));
            none("grows", () -> x.grows(who));
            none("delay", () -> x.delay(who, 0));
            none("delay, ahead of others", () -> x.delay(who, -1));
            none("weds", () -> x.weds(who));
            none("choices", () -> x.choices(who));
            none("sees", () -> x.sees(who) ? 1 : 0);
            none("gets", () -> x.gets(who, 0, 0, 0));
            none("gets, ahead of others", () -> x.gets(who, 4, 0, 0));
            none("owes", () -> x.owes(who, 0));
            none("owes", () -> x.owes(0, who));
            none("owes", () -> x.owes(who, who));
            none("net", () -> x.net(who));
        }
    }

    private static void ranges() {
        for (int colour : new int[] {-1, 4}) {
            bad("light", () -> x.light(colour, 0));
            bad("dusk", () -> x.dusk(0, colour));
            bad("gets", () -> x.gets(0, colour, 0, 0));
            bad("bids", () -> x.bids(0, colour, 0, 0));
            bad("has", () -> x.has(0, colour, 0, 0));
            bad("brightest", () -> x.brightest(colour));
        }
        for (int dusk : new int[] {-1, 201}) {
            bad("dusk", () -> x.dusk(dusk, 0));
            bad("bids", () -> x.bids(dusk, 0, 0, 0));
            bad("has", () -> x.has(dusk, 0, 0, 0));
        }
        fine("dusk(200, 3)", () -> x.dusk(200, 3));
        bad("would parts", () -> x.would(-1, 0, 0, 0));
        bad("would parts", () -> x.would(10000, 0, 0, 0));
        bad("would rate", () -> x.would(0, -1, 0, 0));
        bad("would rate", () -> x.would(0, 17, 0, 0));
        bad("would late", () -> x.would(0, 0, -1, 0));
        bad("would late", () -> x.would(0, 0, 201, 0));
        bad("would paid", () -> x.would(0, 0, 0, -1));
        bad("would paid", () -> x.would(0, 0, 0, 100));
        fine("would", () -> x.would(9999, 16, 200, 99));
        bad("left", () -> x.left(-1));
        bad("left", () -> x.left(61));
        bad("delay", () -> x.delay(0, -1));
        bad("delay", () -> x.delay(0, 10000));
        bad("eyes", () -> x.eyes(-1));
        bad("eyes", () -> x.eyes(20));
        bad("chairs", () -> x.chairs(-1, 0));
        bad("chairs", () -> x.chairs(20, 0));
        fine("chairs", () -> x.chairs(19, 0));
        bad("gets", () -> x.gets(0, 0, -1, 0));
        bad("gets", () -> x.gets(0, 0, 1000, 0));
        fine("gets", () -> x.gets(0, 0, 999, 0));
    }

    private static void rangesOfChance() {
        for (int out : new int[] {-1, 1000}) {
            bad("settle n", () -> x.settle(out, 0, 0, 0, 0));
            bad("settle g", () -> x.settle(0, out, 0, 0, 0));
            bad("settle f", () -> x.settle(0, 0, out, 0, 0));
            bad("settle k", () -> x.settle(0, 0, 0, out, 0));
            bad("now n", () -> x.now(out, 0, 0, 0) ? 1 : 0);
            bad("now g", () -> x.now(0, out, 0, 0) ? 1 : 0);
            bad("now f", () -> x.now(0, 0, out, 0) ? 1 : 0);
            bad("now k", () -> x.now(0, 0, 0, out) ? 1 : 0);
        }
        bad("settle k", () -> x.settle(0, 0, 0, 7, 0));
        bad("now k", () -> x.now(0, 0, 0, 7) ? 1 : 0);
        fine("settle", () -> x.settle(999, 999, 999, 6, 1));
        bad("bids n", () -> x.bids(0, 0, -1, 0));
        bad("bids n", () -> x.bids(0, 0, 21, 0));
        fine("bids", () -> x.bids(200, 3, 20, 2));
        bad("has own", () -> x.has(0, 0, -1, 0));
        bad("has own", () -> x.has(0, 0, 100, 0));
        bad("has other", () -> x.has(0, 0, 0, -1));
        bad("has other", () -> x.has(0, 0, 0, 100));
        fine("has", () -> x.has(200, 3, 99, 99));
        bad("decade", () -> x.decade(0, 0, 0));
        bad("decade", () -> x.decade(0, 61, 0));
        bad("span many", () -> x.span(0, 0, 1, 0));
        bad("span many", () -> x.span(0, 21, 1, 0));
        bad("span dusks", () -> x.span(0, 1, 0, 0));
        bad("span dusks", () -> x.span(0, 1, 61, 0));
        fine("span", () -> x.span(Integer.MAX_VALUE, 20, 60, 2));
    }
}
