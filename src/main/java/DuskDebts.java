import java.util.Arrays;
import java.util.NoSuchElementException;

/** Sunsets are owed: a coast, its creditors, debts of light, and the dusks that pay them. */
public final class DuskDebts {
    public static final int NONE = -1;

    private static final int COLOURS = 4;
    private static final int CELLS = 20;
    private static final int CREDITORS = 6;
    private static final int DEBTS = 10;
    private static final int DUSKS = 12;
    private static final int WEDDINGS = 6;
    private static final int CLAUSES = 60;
    private static final int LINES = 10;
    private static final int NESTS = 6;
    private static final int WORKS = 16;
    private static final int IMAGES = 3;
    private static final int TAPE_BYTES = 600;
    private static final int LAW_BYTES = 150;
    private static final int WORK_BYTES = 150;
    private static final int BOOK_BYTES = 100;
    private static final int FEED_BYTES = 20;
    private static final int LATEST_TERM = 60;
    private static final int LAST_DUSK = 200;
    private static final int AHEAD = 60;
    private static final int MOST_OWED = 9999;
    private static final int SIXTEENTHS = 16;
    private static final int ABOVE_ALL = 2147483647;

    private static final int CANT_STAND = 1;
    private static final int NONE_SUCH = 2;
    private static final int TOO_MANY = 3;
    private static final int FAULT_BASE = 10;
    private static final int WORKS_FULL = -20;

    private final Reader tape;
    private Coast coastNow;
    private Coast coastDraft;
    private Law lawNow;
    private Law lawDraft;
    private Book bookNow;
    private Book bookDraft;
    private final Program program;
    private final Ledger ledger;
    private final Past past;
    private final Past[] images;
    private int imagesKept;
    private int stepsRefused;
    private int callsForNone;
    private int callsWrong;
    private final Foresight foresight;
    private final Ending ending;
    private final Matching matching;
    private final Auction auction;

    public DuskDebts() {
        tape = new Reader();
        coastNow = new Coast();
        coastDraft = new Coast();
        lawNow = new Law();
        lawDraft = new Law();
        bookNow = new Book();
        bookDraft = new Book();
        program = new Program();
        ledger = new Ledger();
        past = new Past();
        images = new Past[IMAGES];
        for (int i = 0; i < IMAGES; i++) {
            images[i] = new Past();
        }
        foresight = new Foresight();
        ending = new Ending();
        matching = new Matching();
        auction = new Auction();
    }

    // ---- texts ----

    public int feed(int a, int b, int c, int d, int e) {
        if (tape.size() + FEED_BYTES > TAPE_BYTES) {
            return NONE;
        }
        tape.put(a);
        tape.put(b);
        tape.put(c);
        tape.put(d);
        tape.put(e);
        return tape.size();
    }

    public int coast(int n) throws IllegalArgumentException {
        openText(n, TAPE_BYTES);
        coastDraft.read(tape);
        if (tape.failed()) {
            return tape.faultKind() - FAULT_BASE;
        }
        Coast before = coastNow;
        coastNow = coastDraft;
        coastDraft = before;
        startAnew();
        return coastNow.debts;
    }

    public int law(int n) throws IllegalArgumentException {
        openText(n, LAW_BYTES);
        lawDraft.read(tape);
        if (tape.failed()) {
            return tape.faultKind() - FAULT_BASE;
        }
        Law before = lawNow;
        lawNow = lawDraft;
        lawDraft = before;
        return 1;
    }

    public int work(int n) throws IllegalArgumentException {
        openText(n, WORK_BYTES);
        if (past.size() >= WORKS) {
            return WORKS_FULL;
        }
        program.read(tape, coastNow);
        if (tape.failed()) {
            return tape.faultKind() - FAULT_BASE;
        }
        past.push(ledger);
        program.run(ledger, coastNow, lawNow);
        stepsRefused = program.refused;
        return program.done;
    }

    public int book(int n) throws IllegalArgumentException {
        openText(n, BOOK_BYTES);
        bookDraft.read(tape);
        if (tape.failed()) {
            return tape.faultKind() - FAULT_BASE;
        }
        Book before = bookNow;
        bookNow = bookDraft;
        bookDraft = before;
        return bookNow.lines;
    }

    public int fault() {
        return tape.faultPlace();
    }

    public int undo() {
        if (past.size() == 0) {
            return -1;
        }
        past.pop(ledger);
        stepsRefused = 0;
        return past.size();
    }

    // ---- what is told, owed and left ----

    public int told(int what) throws IllegalArgumentException {
        require(isIn(what, 0, 8));
        switch (what) {
            case 0:
                return coastNow.creditors;
            case 1:
                return coastNow.debts;
            case 2:
                return coastNow.dusks;
            case 3:
                return coastNow.weddings;
            case 4:
                return ledger.today();
            case 5:
                return ledger.owedInAll(coastNow);
            case 6:
                return ledger.inDefault(coastNow);
            case 7:
                return bookNow.lines;
            default:
                return stepsRefused;
        }
    }

    public int creditor(int creditor, int what) throws NoSuchElementException, IllegalArgumentException {
        requireCreditor(creditor);
        require(isIn(what, 0, 3));
        switch (what) {
            case 0:
                return coastNow.cell[creditor];
            case 1:
                return coastNow.high[creditor];
            case 2:
                return ledger.debtsTo(coastNow, creditor);
            default:
                return ledger.owedTo(coastNow, creditor);
        }
    }

    public int debt(int debt, int what) throws NoSuchElementException, IllegalArgumentException {
        requireDebt(debt);
        require(isIn(what, 0, 6));
        switch (what) {
            case 0:
                return ledger.holder(debt);
            case 1:
                return coastNow.colour[debt];
            case 2:
                return ledger.owed(debt);
            case 3:
                return coastNow.rate[debt];
            case 4:
                return coastNow.term[debt];
            case 5:
                return ledger.defaulted(debt);
            default:
                return ledger.paid(debt);
        }
    }

    public int light(int colour, int what) throws IllegalArgumentException {
        require(isColour(colour) && isIn(what, 0, 4));
        switch (what) {
            case 0:
                return ledger.unspent(colour);
            case 1:
                return coastNow.lamp[colour] - ledger.lent(colour);
            case 2:
                return ledger.lent(colour);
            case 3:
                return ledger.owedOf(coastNow, colour);
            default:
                return ledger.paidOf(coastNow, colour);
        }
    }

    public int dusk(int dusk, int colour) throws IllegalArgumentException {
        require(isDusk(dusk) && isColour(colour));
        return coastNow.shine(dusk, colour);
    }

    // ---- interest ----

    public int would(int parts, int rate, int late, int paid) throws IllegalArgumentException {
        require(isIn(parts, 0, MOST_OWED) && isIn(rate, 0, 16) && isIn(late, 0, 200) && isIn(paid, 0, 99));
        return lawNow.growth(parts, rate, late, 0, paid, 0, 0);
    }

    public int grows(int debt) throws NoSuchElementException {
        requireDebt(debt);
        return ledger.growth(debt, coastNow, lawNow);
    }

    // ---- what to end, how soon, what may wait ----

    public int best(int what) throws IllegalArgumentException {
        require(isIn(what, 0, 1));
        ending.choose(ledger, coastNow, lawNow);
        return what == 0 ? ending.leastGrowth : ending.chosen;
    }

    public int soon() {
        return foresight.duskOfNothingOwed(ledger, coastNow, lawNow);
    }

    public int left(int dusks) throws IllegalArgumentException {
        require(isIn(dusks, 0, AHEAD));
        return foresight.owedBehind(dusks, ledger, coastNow, lawNow);
    }

    public int delay(int debt, int x) throws NoSuchElementException, IllegalArgumentException {
        requireDebt(debt);
        require(isIn(x, 0, MOST_OWED));
        return foresight.dusksToWait(debt, x, ledger, coastNow, lawNow);
    }

    public int next() {
        return ledger.firstDue(coastNow);
    }

    // ---- weddings ----

    public int matched() {
        return matching.matched;
    }

    public int weds(int wedding) throws NoSuchElementException {
        requireWedding(wedding);
        return matching.day[wedding];
    }

    public int choices(int wedding) throws NoSuchElementException {
        requireWedding(wedding);
        return Long.bitCount(coastNow.fittingDusks(wedding));
    }

    // ---- the sea and the chairs ----

    public boolean sees(int creditor) throws NoSuchElementException {
        requireCreditor(creditor);
        return coastNow.showsSea(coastNow.cell[creditor], coastNow.high[creditor]);
    }

    public int eyes(int cell) throws IllegalArgumentException {
        require(isIn(cell, 0, CELLS - 1));
        for (int high = 0; high <= 99; high++) {
            if (coastNow.showsSea(cell, high)) {
                return high;
            }
        }
        return NONE;
    }

    public int chairs(int d, int what) throws IllegalArgumentException {
        require(isIn(d, 0, CELLS - 1) && isIn(what, 0, 1));
        return what == 0 ? fewestChairs(0, d) : firstChairs(d);
    }

    // ---- claims and debts in rings ----

    public int gets(int creditor, int colour, int n, int how) throws NoSuchElementException, IllegalArgumentException {
        requireCreditor(creditor);
        require(isColour(colour) && isIn(n, 0, 999) && isIn(how, 0, 1));
        int claim = ledger.claim(coastNow, creditor, colour);
        if (how == 1) {
            return Math.min(claim, levelOf(colour, n));
        }
        int claimed = ledger.owedOf(coastNow, colour);
        // Nobody claims what is above all claims, so nobody gets it.
        int shared = Math.min(n, claimed);
        return claimed == 0 ? 0 : shared * claim / claimed;
    }

    public int owes(int creditor, int other) throws NoSuchElementException {
        requireCreditor(creditor);
        requireCreditor(other);
        return coastNow.loan(creditor, other);
    }

    public int net(int creditor) throws NoSuchElementException {
        requireCreditor(creditor);
        return coastNow.netOf(creditor);
    }

    public int struck(int what) throws IllegalArgumentException {
        require(isIn(what, 0, 1));
        int sum = coastNow.leastSum();
        return what == 0 ? sum : coastNow.loansInAll() - sum;
    }

    // ---- dusks that were moved ----

    public int moved() {
        return bookNow.rightMoves(coastNow);
    }

    public int look(int what) throws IllegalArgumentException {
        require(isIn(what, 0, 2));
        bookNow.findLook(coastNow);
        switch (what) {
            case 0:
                return bookNow.lookDusk;
            case 1:
                return bookNow.lookColour;
            default:
                return bookNow.lookWorst;
        }
    }

    // ---- settling and bidding ----

    public long settle(int n, int g, int f, int k, int part) throws IllegalArgumentException {
        require(areSettleable(n, g, f, k) && isIn(part, 0, 1));
        long below = 1L << (4 * k);
        long above = payOff(n, g) * below;
        if (k > 0) {
            above = Math.min(above, waitLoss(n, g, f, k));
        }
        for (int halvings = 0; halvings < 4 * k && above % 2 == 0; halvings++) {
            above /= 2;
            below /= 2;
        }
        return part == 0 ? above : below;
    }

    public boolean now(int n, int g, int f, int k) throws IllegalArgumentException {
        require(areSettleable(n, g, f, k));
        return k == 0 || payOff(n, g) << (4 * k) <= waitLoss(n, g, f, k);
    }

    public int bids(int dusk, int colour, int n, int what) throws IllegalArgumentException {
        require(isDusk(dusk) && isColour(colour));
        require(isIn(n, 0, Auction.MOST_BID) && isIn(what, 0, 2));
        int parts = coastNow.shine(dusk, colour);
        auction.findRests(parts, n);
        switch (what) {
            case 0:
                return auction.rests;
            case 1:
                return auction.rests == 0 ? NONE : 100 * auction.firstOwn + auction.firstOther;
            default:
                return auction.rests == 0 ? 0 : Auction.gain(parts, auction.firstOwn, auction.firstOther);
        }
    }

    public int has(int dusk, int colour, int own, int other) throws IllegalArgumentException {
        require(isDusk(dusk) && isColour(colour) && isIn(own, 0, 99) && isIn(other, 0, 99));
        return Auction.gain(coastNow.shine(dusk, colour), own, other);
    }

    // ---- decades of fog ----

    public int decade(int seed, int dusks, int what) throws IllegalArgumentException {
        require(isIn(dusks, 1, AHEAD) && isIn(what, 0, 3));
        foresight.liveDecade(seed, dusks, ledger, coastNow, lawNow);
        switch (what) {
            case 0:
                return foresight.owedThen(coastNow);
            case 1:
                return foresight.inDefaultThen(coastNow);
            case 2:
                return foresight.fogs;
            default:
                return foresight.partsPaid;
        }
    }

    public int span(int seed, int many, int dusks, int what) throws IllegalArgumentException {
        require(isIn(many, 1, 20) && isIn(dusks, 1, AHEAD) && isIn(what, 0, 2));
        int least = ABOVE_ALL;
        int most = 0;
        int clean = 0;
        for (int i = 0; i < many; i++) {
            foresight.liveDecade(seed + i, dusks, ledger, coastNow, lawNow);
            int owed = foresight.owedThen(coastNow);
            least = Math.min(least, owed);
            most = Math.max(most, owed);
            if (foresight.inDefaultThen(coastNow) == 0) {
                clean++;
            }
        }
        return what == 0 ? least : what == 1 ? most : clean;
    }

    // ---- the greatest and the brightest ----

    public int greatest() {
        int found = NONE;
        int most = 0;
        for (int c = 0; c < coastNow.creditors; c++) {
            int owed = ledger.owedTo(coastNow, c);
            if (owed > most) {
                most = owed;
                found = c;
            }
        }
        return found;
    }

    public int brightest(int colour) throws IllegalArgumentException {
        require(isColour(colour));
        int found = NONE;
        int most = NONE;
        for (int e = 0; e < coastNow.dusks; e++) {
            int parts = coastNow.shine(e, colour);
            if (parts > most) {
                most = parts;
                found = e;
            }
        }
        return found;
    }

    // ---- images and counts ----

    public int image() {
        if (imagesKept >= IMAGES) {
            return -1;
        }
        images[imagesKept].copy(past);
        images[imagesKept].push(ledger);
        imagesKept++;
        return imagesKept;
    }

    public int restore() {
        if (imagesKept <= 0) {
            return -1;
        }
        imagesKept--;
        past.copy(images[imagesKept]);
        past.pop(ledger);
        stepsRefused = 0;
        return imagesKept;
    }

    public int status(int what) {
        switch (what) {
            case 0:
                return callsForNone;
            case 1:
                return callsWrong;
            default:
                return NONE;
        }
    }

    public int count(int what) {
        switch (what) {
            case 0:
                return imagesKept;
            case 1:
                return tape.size();
            case 2:
                return past.size();
            default:
                return NONE;
        }
    }

    // ---- what the calls share ----

    private void openText(int n, int most) {
        require(n >= 0 && n <= most && n <= tape.size());
        tape.open(n);
    }

    private void startAnew() {
        lawNow.setPlain();
        bookNow.clear();
        past.clear();
        imagesKept = 0;
        stepsRefused = 0;
        ledger.start(coastNow);
        matching.match(coastNow);
    }

    private void require(boolean fits) {
        if (!fits) {
            callsWrong++;
            throw new IllegalArgumentException();
        }
    }

    private void requireCreditor(int creditor) {
        requireSuch(isIn(creditor, 0, coastNow.creditors - 1));
    }

    private void requireDebt(int debt) {
        requireSuch(isIn(debt, 0, coastNow.debts - 1));
    }

    private void requireWedding(int wedding) {
        requireSuch(isIn(wedding, 0, coastNow.weddings - 1));
    }

    private void requireSuch(boolean isThere) {
        if (!isThere) {
            callsForNone++;
            throw new NoSuchElementException();
        }
    }

    private static boolean isIn(int value, int least, int most) {
        return value >= least && value <= most;
    }

    private static boolean isColour(int colour) {
        return isIn(colour, 0, COLOURS - 1);
    }

    private static boolean isDusk(int dusk) {
        return isIn(dusk, 0, LAST_DUSK);
    }

    /** A chair as far right as the leftmost creditor allows reaches most of the others. */
    private int fewestChairs(int from, int d) {
        int many = 0;
        int seat = coastNow.firstSeat(from);
        while (seat != NONE && many < CREDITORS) {
            many++;
            seat = coastNow.firstSeat(seat + 2 * d + 1);
        }
        return many;
    }

    private int firstChairs(int d) {
        int bits = 0;
        int open = fewestChairs(0, d);
        int seat = coastNow.firstSeat(0);
        while (seat != NONE && open > 0) {
            open--;
            int chair = Math.max(0, seat - d);
            while (chair < CELLS - 1 && fewestChairs(chair + d + 1, d) > open) {
                chair++;
            }
            bits |= 1 << chair;
            seat = coastNow.firstSeat(chair + d + 1);
        }
        return bits;
    }

    /** No bound above n is needed: one that gave no more than n would bind no claim. */
    private int levelOf(int colour, int n) {
        int fits = 0;
        int high = n;
        for (int halvings = 0; halvings < 20 && fits < high; halvings++) {
            int bound = fits + (high - fits + 1) / 2;
            if (givenBy(bound, colour) <= n) {
                fits = bound;
            } else {
                high = bound - 1;
            }
        }
        return fits;
    }

    private int givenBy(int bound, int colour) {
        int given = 0;
        for (int c = 0; c < coastNow.creditors; c++) {
            given += Math.min(bound, ledger.claim(coastNow, c, colour));
        }
        return given;
    }

    private static boolean areSettleable(int n, int g, int f, int k) {
        return isIn(n, 0, 999) && isIn(g, 0, 999) && isIn(f, 0, 999) && isIn(k, 0, 6);
    }

    private static long payOff(int n, int less) {
        return Math.max(0, n - less);
    }

    /** The mean loss of waiting at least one of k dusks, in parts of 16 to the power k. */
    private long waitLoss(int n, int g, int f, int k) {
        int fog = coastNow.fog;
        long unit = 1;
        long ifClear = payOff(n, 2 * g);
        long loss = 0;
        for (int dusksLeft = 1; dusksLeft <= k; dusksLeft++) {
            loss = fog * (long) (n + f) * unit + (SIXTEENTHS - fog) * ifClear;
            unit *= SIXTEENTHS;
            ifClear = Math.min(loss, payOff(n, g) * unit);
        }
        return loss;
    }

    /** The tape, and the text on it that is being read from the left. */
    private static final class Reader {
        private final byte[] bytes = new byte[TAPE_BYTES];
        private int filled;
        private int end;
        private int at;
        private int start;
        private int kind;
        private int place = NONE;

        int size() {
            return filled;
        }

        void put(int four) {
            for (int shift = 24; shift >= 0 && filled < TAPE_BYTES; shift -= 8) {
                bytes[filled] = (byte) (four >>> shift);
                filled++;
            }
        }

        /** The tape counts as empty from here on; its bytes stay until more are fed. */
        void open(int length) {
            end = Math.min(length, TAPE_BYTES);
            filled = 0;
            at = 0;
            start = 0;
            kind = 0;
            place = NONE;
        }

        boolean failed() {
            return kind != 0;
        }

        int faultKind() {
            return kind;
        }

        int faultPlace() {
            return place;
        }

        /** Reading goes from left to right, so the first that is blamed is the leftmost. */
        void blame(int faultKind, int where) {
            if (kind == 0) {
                kind = faultKind;
                place = where;
            }
        }

        int startOfLast() {
            return start;
        }

        boolean goesOn() {
            skipBlanks();
            return kind == 0 && at < end;
        }

        boolean takes(char sign) {
            skipBlanks();
            if (kind != 0 || peek() != sign) {
                return false;
            }
            start = at;
            at++;
            return true;
        }

        void need(char sign) {
            if (!takes(sign)) {
                blame(CANT_STAND, at);
            }
        }

        void needEnd() {
            skipBlanks();
            if (at < end) {
                blame(CANT_STAND, at);
            }
        }

        boolean isAtDigit() {
            skipBlanks();
            return isDigit(peek());
        }

        int number(int least, int most) {
            skipBlanks();
            start = at;
            if (!isDigit(peek())) {
                blame(CANT_STAND, at);
                return least;
            }
            int value = 0;
            while (at < end && isDigit(peek())) {
                value = Math.min(MOST_OWED, value * 10 + peek() - '0');
                at++;
            }
            if (value < least || value > most) {
                blame(NONE_SUCH, start);
                return least;
            }
            return value;
        }

        void word() {
            skipBlanks();
            start = at;
            while (at < end && isLetter(peek())) {
                at++;
            }
        }

        boolean was(String word) {
            if (at - start != word.length()) {
                return false;
            }
            for (int i = 0; i < word.length(); i++) {
                if (bytes[start + i] != word.charAt(i)) {
                    return false;
                }
            }
            return true;
        }

        int colour() {
            word();
            if (was("gold")) {
                return 0;
            }
            if (was("rose")) {
                return 1;
            }
            if (was("green")) {
                return 2;
            }
            if (!was("grey")) {
                blame(CANT_STAND, start);
            }
            return 3;
        }

        private int peek() {
            return at < end ? bytes[at] & 255 : NONE;
        }

        private void skipBlanks() {
            while (at < end && bytes[at] == ' ') {
                at++;
            }
        }

        private static boolean isDigit(int sign) {
            return sign >= '0' && sign <= '9';
        }

        private static boolean isLetter(int sign) {
            return sign >= 'a' && sign <= 'z';
        }
    }

    /** All that a coast's text tells. */
    private static final class Coast {
        int creditors;
        final int[] cell = new int[CREDITORS];
        final int[] high = new int[CREDITORS];
        int debts;
        final int[] firstHolder = new int[DEBTS];
        final int[] colour = new int[DEBTS];
        final int[] parts = new int[DEBTS];
        final int[] rate = new int[DEBTS];
        final int[] term = new int[DEBTS];
        final int[] byTerm = new int[DEBTS];
        int dusks;
        private final int[] lights = new int[DUSKS * COLOURS];
        private final int[] ridge = new int[CELLS];
        final int[] lamp = new int[COLOURS];
        int weddings;
        private final int[] wantsColour = new int[WEDDINGS];
        private final int[] wantsParts = new int[WEDDINGS];
        private final int[] wantsBy = new int[WEDDINGS];
        int fog;
        private final int[] loans = new int[CREDITORS * CREDITORS];

        void read(Reader text) {
            clear();
            for (int clauses = 0; clauses <= CLAUSES && text.goesOn(); clauses++) {
                readClause(text, clauses < CLAUSES);
                text.need(';');
            }
            orderByTerm();
        }

        private void clear() {
            creditors = 0;
            debts = 0;
            dusks = 0;
            weddings = 0;
            fog = 0;
            Arrays.fill(ridge, 0);
            Arrays.fill(lamp, 0);
            Arrays.fill(loans, 0);
        }

        private void readClause(Reader text, boolean hasRoom) {
            text.word();
            int place = text.startOfLast();
            if (text.was("creditor")) {
                admit(text, place, hasRoom && creditors < CREDITORS);
                readCreditor(text);
            } else if (text.was("debt")) {
                admit(text, place, hasRoom && debts < DEBTS);
                readDebt(text);
            } else if (text.was("dusk")) {
                admit(text, place, hasRoom && dusks < DUSKS);
                readDusk(text);
            } else if (text.was("ridge")) {
                admit(text, place, hasRoom);
                readRidge(text);
            } else if (text.was("lamp")) {
                admit(text, place, hasRoom);
                readLamp(text);
            } else if (text.was("wedding")) {
                admit(text, place, hasRoom && weddings < WEDDINGS);
                readWedding(text);
            } else if (text.was("fog")) {
                admit(text, place, hasRoom);
                readFog(text);
            } else if (text.was("owes")) {
                admit(text, place, hasRoom);
                readLoan(text);
            } else {
                text.blame(CANT_STAND, place);
            }
        }

        private static void admit(Reader text, int place, boolean hasRoom) {
            if (!hasRoom) {
                text.blame(TOO_MANY, place);
            }
        }

        private void readCreditor(Reader text) {
            int where = text.number(0, CELLS - 1);
            int eyes = text.number(0, 20);
            if (!text.failed() && creditors < CREDITORS) {
                cell[creditors] = where;
                high[creditors] = eyes;
                creditors++;
            }
        }

        private void readDebt(Reader text) {
            int holder = text.number(0, creditors - 1);
            int hue = text.colour();
            int many = text.number(1, 99);
            int interest = text.number(0, 16);
            int by = text.number(0, LATEST_TERM);
            if (!text.failed() && debts < DEBTS) {
                firstHolder[debts] = holder;
                colour[debts] = hue;
                parts[debts] = many;
                rate[debts] = interest;
                term[debts] = by;
                debts++;
            }
        }

        private void readDusk(Reader text) {
            for (int k = 0; k < COLOURS; k++) {
                int many = text.number(0, 40);
                if (dusks < DUSKS) {
                    lights[dusks * COLOURS + k] = many;
                }
            }
            if (!text.failed() && dusks < DUSKS) {
                dusks++;
            }
        }

        private void readRidge(Reader text) {
            int where = text.number(0, CELLS - 1);
            int height = text.number(0, 20);
            if (!text.failed()) {
                ridge[where] = height;
            }
        }

        private void readLamp(Reader text) {
            int hue = text.colour();
            int many = text.number(0, 99);
            if (!text.failed()) {
                lamp[hue] = many;
            }
        }

        private void readWedding(Reader text) {
            int hue = text.colour();
            int many = text.number(1, 40);
            int by = text.number(0, LATEST_TERM);
            if (!text.failed() && weddings < WEDDINGS) {
                wantsColour[weddings] = hue;
                wantsParts[weddings] = many;
                wantsBy[weddings] = by;
                weddings++;
            }
        }

        private void readFog(Reader text) {
            int sixteenths = text.number(0, SIXTEENTHS);
            if (!text.failed()) {
                fog = sixteenths;
            }
        }

        private void readLoan(Reader text) {
            int from = text.number(0, creditors - 1);
            int to = text.number(0, creditors - 1);
            if (from == to) {
                text.blame(NONE_SUCH, text.startOfLast());
            }
            int many = text.number(1, 99);
            if (!text.failed()) {
                int pair = from * CREDITORS + to;
                loans[pair] = Math.min(999, loans[pair] + many);
            }
        }

        /** Light goes to debts by their term, so the order is kept ready. */
        private void orderByTerm() {
            for (int d = 0; d < debts; d++) {
                int slot = d;
                while (slot > 0 && term[byTerm[slot - 1]] > term[d]) {
                    byTerm[slot] = byTerm[slot - 1];
                    slot--;
                }
                byTerm[slot] = d;
            }
        }

        int shine(int dusk, int hue) {
            if (dusks <= 0 || dusk < 0) {
                return 0;
            }
            return lights[dusk % dusks * COLOURS + hue];
        }

        long fittingDusks(int wedding) {
            long bits = 0;
            for (int e = 0; e <= wantsBy[wedding]; e++) {
                if (shine(e, wantsColour[wedding]) >= wantsParts[wedding]) {
                    bits |= 1L << e;
                }
            }
            return bits;
        }

        /** Heights are multiplied by the distance to the sea, so that the line is exact. */
        boolean showsSea(int from, int eyes) {
            int top = eyes + ridge[from];
            for (int x = 0; x < from; x++) {
                if (ridge[x] * (from + 1) >= top * (x + 1)) {
                    return false;
                }
            }
            return true;
        }

        int firstSeat(int from) {
            int found = NONE;
            for (int c = 0; c < creditors; c++) {
                if (cell[c] >= from && (found == NONE || cell[c] < found)) {
                    found = cell[c];
                }
            }
            return found;
        }

        int loan(int from, int to) {
            return loans[from * CREDITORS + to];
        }

        int netOf(int creditor) {
            int sum = 0;
            for (int c = 0; c < creditors; c++) {
                sum += loan(c, creditor) - loan(creditor, c);
            }
            return sum;
        }

        int leastSum() {
            int sum = 0;
            for (int c = 0; c < creditors; c++) {
                sum += Math.max(0, netOf(c));
            }
            return sum;
        }

        int loansInAll() {
            int sum = 0;
            for (int pair = 0; pair < loans.length; pair++) {
                sum += loans[pair];
            }
            return sum;
        }
    }

    /** How much interest grows: a formula, kept as codes in the order in which they are reckoned. */
    private static final class Law {
        private static final int PARTS = -1;
        private static final int RATE = -2;
        private static final int LATE = -3;
        private static final int DUSK = -4;
        private static final int PAID = -5;
        private static final int COLOUR = -6;
        private static final int CELL = -7;
        private static final int ADD = -8;
        private static final int LESS = -9;
        private static final int TIMES = -10;
        private static final int BY = -11;
        private static final int LEAST = -12;
        private static final int MOST = -13;
        private static final int NAMES = 7;
        private static final int STACK = 40;
        private static final int MOST_GROWTH = 99;

        private final int[] codes = new int[LAW_BYTES];
        private int length;
        private final int[] known = new int[NAMES];
        private final int[] stack = new int[STACK];

        Law() {
            setPlain();
        }

        void setPlain() {
            length = 0;
            emit(PARTS);
            emit(RATE);
            emit(TIMES);
            emit(SIXTEENTHS);
            emit(BY);
        }

        void read(Reader text) {
            length = 0;
            readSum(text, 0);
            text.needEnd();
        }

        private void readSum(Reader text, int open) {
            readProduct(text, open);
            for (int i = 0; i < LAW_BYTES && !text.failed(); i++) {
                if (text.takes('+')) {
                    readProduct(text, open);
                    emit(ADD);
                } else if (text.takes('-')) {
                    readProduct(text, open);
                    emit(LESS);
                } else {
                    return;
                }
            }
        }

        private void readProduct(Reader text, int open) {
            readUnit(text, open);
            for (int i = 0; i < LAW_BYTES && !text.failed(); i++) {
                if (text.takes('*')) {
                    readUnit(text, open);
                    emit(TIMES);
                } else if (text.takes('/')) {
                    readUnit(text, open);
                    emit(BY);
                } else {
                    return;
                }
            }
        }

        private void readUnit(Reader text, int open) {
            if (text.isAtDigit()) {
                emit(text.number(0, 999));
                return;
            }
            if (text.takes('(')) {
                if (mayOpen(text, open)) {
                    readSum(text, open + 1);
                    text.need(')');
                }
                return;
            }
            text.word();
            if (text.was("least")) {
                readPair(text, open, LEAST);
            } else if (text.was("most")) {
                readPair(text, open, MOST);
            } else {
                readName(text);
            }
        }

        private void readPair(Reader text, int open, int code) {
            if (mayOpen(text, open)) {
                text.need('[');
                readSum(text, open + 1);
                text.need(',');
                readSum(text, open + 1);
                text.need(']');
                emit(code);
            }
        }

        private static boolean mayOpen(Reader text, int open) {
            if (open >= NESTS) {
                text.blame(TOO_MANY, text.startOfLast());
            }
            return !text.failed();
        }

        private void readName(Reader text) {
            if (text.was("parts")) {
                emit(PARTS);
            } else if (text.was("rate")) {
                emit(RATE);
            } else if (text.was("late")) {
                emit(LATE);
            } else if (text.was("dusk")) {
                emit(DUSK);
            } else if (text.was("paid")) {
                emit(PAID);
            } else if (text.was("colour")) {
                emit(COLOUR);
            } else if (text.was("cell")) {
                emit(CELL);
            } else {
                text.blame(CANT_STAND, text.startOfLast());
            }
        }

        private void emit(int code) {
            if (length < LAW_BYTES) {
                codes[length] = code;
                length++;
            }
        }

        int growth(int parts, int rate, int late, int dusk, int paid, int colour, int cell) {
            known[-1 - PARTS] = parts;
            known[-1 - RATE] = rate;
            known[-1 - LATE] = late;
            known[-1 - DUSK] = dusk;
            known[-1 - PAID] = paid;
            known[-1 - COLOUR] = colour;
            known[-1 - CELL] = cell;
            int depth = 0;
            for (int i = 0; i < length; i++) {
                int code = codes[i];
                if (code >= 0 && depth < STACK) {
                    stack[depth] = code;
                    depth++;
                } else if (code > ADD && depth < STACK) {
                    stack[depth] = known[-1 - code];
                    depth++;
                } else if (depth >= 2) {
                    depth--;
                    stack[depth - 1] = joined(code, stack[depth - 1], stack[depth]);
                }
            }
            return Math.max(0, Math.min(MOST_GROWTH, stack[0]));
        }

        private static int joined(int code, int a, int b) {
            switch (code) {
                case ADD:
                    return a + b;
                case LESS:
                    return a - b;
                case TIMES:
                    return a * b;
                case BY:
                    return b == 0 ? 0 : a / b;
                case LEAST:
                    return a < b ? a : b;
                default:
                    return a > b ? a : b;
            }
        }
    }

    /** What was seen in dusks, and by how far these may have been moved. */
    private static final class Book {
        int lines;
        private final int[] dusk = new int[LINES];
        private final int[] colour = new int[LINES];
        private final int[] parts = new int[LINES];
        int lookDusk;
        int lookColour;
        int lookWorst;

        void clear() {
            lines = 0;
        }

        void read(Reader text) {
            clear();
            for (int i = 0; i <= LINES && text.goesOn(); i++) {
                readLine(text);
                text.need(';');
            }
        }

        private void readLine(Reader text) {
            int when = text.number(0, LATEST_TERM);
            if (lines >= LINES) {
                text.blame(TOO_MANY, text.startOfLast());
            }
            int hue = text.colour();
            int many = text.number(0, 40);
            if (!text.failed() && lines < LINES) {
                dusk[lines] = when;
                colour[lines] = hue;
                parts[lines] = many;
                lines++;
            }
        }

        int rightMoves(Coast coast) {
            int bits = 0;
            for (int s = 0; s < coast.dusks; s++) {
                if (isRight(coast, s)) {
                    bits |= 1 << s;
                }
            }
            return bits;
        }

        private boolean isRight(Coast coast, int s) {
            for (int i = 0; i < lines; i++) {
                if (coast.shine(dusk[i] + s, colour[i]) != parts[i]) {
                    return false;
                }
            }
            return true;
        }

        void findLook(Coast coast) {
            lookDusk = NONE;
            lookColour = NONE;
            lookWorst = NONE;
            int moves = rightMoves(coast);
            for (int e = 0; e < coast.dusks; e++) {
                for (int k = 0; k < COLOURS; k++) {
                    if (!isInLine(e, k)) {
                        offerLook(e, k, mostAlike(coast, moves, e, k));
                    }
                }
            }
        }

        private boolean isInLine(int e, int k) {
            for (int i = 0; i < lines; i++) {
                if (dusk[i] == e && colour[i] == k) {
                    return true;
                }
            }
            return false;
        }

        private void offerLook(int e, int k, int worst) {
            if (lookDusk == NONE || worst < lookWorst) {
                lookDusk = e;
                lookColour = k;
                lookWorst = worst;
            }
        }

        private static int mostAlike(Coast coast, int moves, int e, int k) {
            int most = 0;
            for (int s = 0; s < coast.dusks; s++) {
                if ((moves >> s & 1) == 1) {
                    most = Math.max(most, alike(coast, moves, e, k, coast.shine(e + s, k)));
                }
            }
            return most;
        }

        private static int alike(Coast coast, int moves, int e, int k, int parts) {
            int many = 0;
            for (int s = 0; s < coast.dusks; s++) {
                if ((moves >> s & 1) == 1 && coast.shine(e + s, k) == parts) {
                    many++;
                }
            }
            return many;
        }
    }

    /** A work's steps; those that an again repeats stand behind it, up to its own end. */
    private static final class Program {
        private static final int PAY = 0;
        private static final int END = 1;
        private static final int LAMP = 2;
        private static final int HAND = 3;
        private static final int PASS = 4;
        private static final int AGAIN = 5;
        private static final int MOST_BEGUN = 200;

        private final int[] kind = new int[WORK_BYTES];
        private final int[] first = new int[WORK_BYTES];
        private final int[] second = new int[WORK_BYTES];
        private int steps;
        private int begun;
        int done;
        int refused;

        void read(Reader text, Coast coast) {
            steps = 0;
            for (int i = 0; i < WORK_BYTES && text.goesOn(); i++) {
                readStep(text, coast, 0);
                text.need(';');
            }
        }

        private void readStep(Reader text, Coast coast, int open) {
            text.word();
            if (text.was("pay")) {
                int debt = text.number(0, coast.debts - 1);
                add(PAY, debt, text.number(1, 99));
            } else if (text.was("end")) {
                add(END, text.number(0, coast.debts - 1), 0);
            } else if (text.was("lamp")) {
                int hue = text.colour();
                add(LAMP, hue, text.number(1, 99));
            } else if (text.was("hand")) {
                int debt = text.number(0, coast.debts - 1);
                add(HAND, debt, text.number(0, coast.creditors - 1));
            } else if (text.was("dusk")) {
                add(PASS, 0, 0);
            } else if (text.was("again")) {
                readAgain(text, coast, open);
            } else {
                text.blame(CANT_STAND, text.startOfLast());
            }
        }

        private void readAgain(Reader text, Coast coast, int open) {
            if (open >= NESTS) {
                text.blame(TOO_MANY, text.startOfLast());
                return;
            }
            int own = steps;
            add(AGAIN, text.number(0, 20), 0);
            text.need('[');
            for (int i = 0; i < WORK_BYTES && !text.failed() && !text.takes(']'); i++) {
                readStep(text, coast, open + 1);
                text.need(';');
            }
            if (own < WORK_BYTES) {
                second[own] = steps;
            }
        }

        private void add(int what, int x, int y) {
            if (steps < WORK_BYTES) {
                kind[steps] = what;
                first[steps] = x;
                second[steps] = y;
                steps++;
            }
        }

        void run(Ledger ledger, Coast coast, Law law) {
            begun = 0;
            done = 0;
            refused = 0;
            runSteps(0, steps, ledger, coast, law);
        }

        private void runSteps(int from, int to, Ledger ledger, Coast coast, Law law) {
            int i = from;
            while (i < to && i < WORK_BYTES && begun < MOST_BEGUN) {
                begun++;
                if (kind[i] == AGAIN) {
                    for (int times = 0; times < first[i] && begun < MOST_BEGUN; times++) {
                        runSteps(i + 1, second[i], ledger, coast, law);
                    }
                    i = Math.max(i + 1, second[i]);
                } else {
                    if (isDone(i, ledger, coast, law)) {
                        done++;
                    } else {
                        refused++;
                    }
                    i++;
                }
            }
        }

        private boolean isDone(int i, Ledger ledger, Coast coast, Law law) {
            switch (kind[i]) {
                case PAY:
                    return ledger.pay(coast, first[i], second[i]);
                case END:
                    return ledger.pay(coast, first[i], ledger.owed(first[i]));
                case LAMP:
                    return ledger.borrow(coast, first[i], second[i]);
                case HAND:
                    return ledger.handOn(first[i], second[i]);
                default:
                    return ledger.pass(coast, law);
            }
        }
    }

    /** All that work changes, in one row, so that it is kept and brought back whole. */
    private static final class Ledger {
        private static final int OWED = 0;
        private static final int HOLDER = OWED + DEBTS;
        private static final int PAID = HOLDER + DEBTS;
        private static final int PAID_TODAY = PAID + DEBTS;
        private static final int DEFAULTED = PAID_TODAY + DEBTS;
        private static final int UNSPENT = DEFAULTED + DEBTS;
        private static final int LENT = UNSPENT + COLOURS;
        private static final int TODAY = LENT + COLOURS;
        private static final int WIDTH = TODAY + 1;

        private final int[] row = new int[WIDTH];

        void start(Coast coast) {
            Arrays.fill(row, 0);
            for (int d = 0; d < coast.debts; d++) {
                row[OWED + d] = coast.parts[d];
                row[HOLDER + d] = coast.firstHolder[d];
            }
            takeLight(coast);
        }

        void copy(Ledger other) {
            System.arraycopy(other.row, 0, row, 0, WIDTH);
        }

        int today() {
            return row[TODAY];
        }

        int owed(int debt) {
            return row[OWED + debt];
        }

        int holder(int debt) {
            return row[HOLDER + debt];
        }

        int paid(int debt) {
            return row[PAID + debt];
        }

        int paidToday(int debt) {
            return row[PAID_TODAY + debt];
        }

        int defaulted(int debt) {
            return row[DEFAULTED + debt];
        }

        int unspent(int colour) {
            return row[UNSPENT + colour];
        }

        int lent(int colour) {
            return row[LENT + colour];
        }

        boolean pay(Coast coast, int debt, int parts) {
            int colour = coast.colour[debt];
            if (parts <= 0 || parts > owed(debt) || parts > unspent(colour)) {
                return false;
            }
            row[UNSPENT + colour] -= parts;
            row[OWED + debt] -= parts;
            row[PAID + debt] += parts;
            row[PAID_TODAY + debt] += parts;
            return true;
        }

        boolean borrow(Coast coast, int colour, int parts) {
            if (parts > coast.lamp[colour] - lent(colour)) {
                return false;
            }
            row[LENT + colour] += parts;
            row[UNSPENT + colour] += parts;
            return true;
        }

        boolean handOn(int debt, int creditor) {
            if (owed(debt) == 0 || holder(debt) == creditor) {
                return false;
            }
            row[HOLDER + debt] = creditor;
            return true;
        }

        /** Foresight asks here too, so that what is foreseen ends on the last dusk as work does. */
        boolean pass(Coast coast, Law law) {
            if (today() >= LAST_DUSK) {
                return false;
            }
            for (int d = 0; d < coast.debts; d++) {
                if (owed(d) > 0) {
                    int more = growthOf(d, owed(d), paidToday(d), today(), coast, law);
                    row[OWED + d] = Math.min(MOST_OWED, owed(d) + more);
                    if (today() == coast.term[d]) {
                        row[DEFAULTED + d] = 1;
                    }
                }
                row[PAID_TODAY + d] = 0;
            }
            row[TODAY]++;
            takeLight(coast);
            return true;
        }

        private void takeLight(Coast coast) {
            for (int k = 0; k < COLOURS; k++) {
                row[UNSPENT + k] = coast.shine(today(), k);
            }
        }

        void loseLight() {
            for (int k = 0; k < COLOURS; k++) {
                row[UNSPENT + k] = 0;
            }
        }

        int payByTerm(Coast coast) {
            int sum = 0;
            for (int i = 0; i < coast.debts; i++) {
                int d = coast.byTerm[i];
                int parts = Math.min(owed(d), unspent(coast.colour[d]));
                if (pay(coast, d, parts)) {
                    sum += parts;
                }
            }
            return sum;
        }

        int growth(int debt, Coast coast, Law law) {
            return growthOf(debt, owed(debt), paidToday(debt), today(), coast, law);
        }

        int growthOf(int debt, int parts, int paid, int dusk, Coast coast, Law law) {
            if (parts <= 0) {
                return 0;
            }
            int late = Math.max(0, dusk - coast.term[debt]);
            int cell = coast.cell[holder(debt)];
            return law.growth(parts, coast.rate[debt], late, dusk, paid, coast.colour[debt], cell);
        }

        int firstDue(Coast coast) {
            for (int i = 0; i < coast.debts; i++) {
                if (owed(coast.byTerm[i]) > 0) {
                    return coast.byTerm[i];
                }
            }
            return NONE;
        }

        int owedInAll(Coast coast) {
            int sum = 0;
            for (int d = 0; d < coast.debts; d++) {
                sum += owed(d);
            }
            return sum;
        }

        int inDefault(Coast coast) {
            int many = 0;
            for (int d = 0; d < coast.debts; d++) {
                many += defaulted(d);
            }
            return many;
        }

        int debtsTo(Coast coast, int creditor) {
            int many = 0;
            for (int d = 0; d < coast.debts; d++) {
                if (holder(d) == creditor && owed(d) > 0) {
                    many++;
                }
            }
            return many;
        }

        int owedTo(Coast coast, int creditor) {
            int sum = 0;
            for (int k = 0; k < COLOURS; k++) {
                sum += claim(coast, creditor, k);
            }
            return sum;
        }

        int claim(Coast coast, int creditor, int colour) {
            int sum = 0;
            for (int d = 0; d < coast.debts; d++) {
                if (holder(d) == creditor && coast.colour[d] == colour) {
                    sum += owed(d);
                }
            }
            return sum;
        }

        int owedOf(Coast coast, int colour) {
            int sum = 0;
            for (int d = 0; d < coast.debts; d++) {
                if (coast.colour[d] == colour) {
                    sum += owed(d);
                }
            }
            return sum;
        }

        int paidOf(Coast coast, int colour) {
            int sum = 0;
            for (int d = 0; d < coast.debts; d++) {
                if (coast.colour[d] == colour) {
                    sum += paid(d);
                }
            }
            return sum;
        }
    }

    /** Ledgers as they were ahead of works; an image has one more, the ledger as it was then. */
    private static final class Past {
        private final int[] rows = new int[(WORKS + 1) * Ledger.WIDTH];
        private int kept;

        int size() {
            return kept;
        }

        void clear() {
            kept = 0;
        }

        void copy(Past other) {
            kept = other.kept;
            System.arraycopy(other.rows, 0, rows, 0, kept * Ledger.WIDTH);
        }

        void push(Ledger ledger) {
            if (kept <= WORKS) {
                System.arraycopy(ledger.row, 0, rows, kept * Ledger.WIDTH, Ledger.WIDTH);
                kept++;
            }
        }

        void pop(Ledger ledger) {
            if (kept > 0) {
                kept--;
                System.arraycopy(rows, kept * Ledger.WIDTH, ledger.row, 0, Ledger.WIDTH);
            }
        }
    }

    /** What would come: a ledger of its own is led on, the true one stays. */
    private static final class Foresight {
        private final Ledger trial = new Ledger();
        int fogs;
        int partsPaid;

        int duskOfNothingOwed(Ledger ledger, Coast coast, Law law) {
            trial.copy(ledger);
            for (int i = 0; i <= AHEAD; i++) {
                trial.payByTerm(coast);
                if (trial.owedInAll(coast) == 0) {
                    return trial.today();
                }
                trial.pass(coast, law);
            }
            return NONE;
        }

        int owedBehind(int dusks, Ledger ledger, Coast coast, Law law) {
            trial.copy(ledger);
            for (int i = 0; i < dusks; i++) {
                trial.payByTerm(coast);
                trial.pass(coast, law);
            }
            return trial.owedInAll(coast);
        }

        int dusksToWait(int debt, int bound, Ledger ledger, Coast coast, Law law) {
            int parts = ledger.owed(debt);
            if (parts > bound) {
                return NONE;
            }
            int paid = ledger.paidToday(debt);
            for (int waited = 0; waited < AHEAD; waited++) {
                int more = ledger.growthOf(debt, parts, paid, ledger.today() + waited, coast, law);
                parts = Math.min(MOST_OWED, parts + more);
                if (parts > bound) {
                    return waited;
                }
                paid = 0;
            }
            return AHEAD;
        }

        void liveDecade(int firstSeed, int dusks, Ledger ledger, Coast coast, Law law) {
            int seed = firstSeed;
            fogs = 0;
            partsPaid = 0;
            trial.copy(ledger);
            for (int i = 0; i < dusks; i++) {
                seed = seed * 1103515245 + 12345;
                if ((seed >>> 16 & 32767) % SIXTEENTHS < coast.fog) {
                    fogs++;
                    trial.loseLight();
                }
                partsPaid += trial.payByTerm(coast);
                trial.pass(coast, law);
            }
        }

        int owedThen(Coast coast) {
            return trial.owedInAll(coast);
        }

        int inDefaultThen(Coast coast) {
            return trial.inDefault(coast);
        }
    }

    /** Which debts to end in this dusk, so that least grows. */
    private static final class Ending {
        private final int[] grown = new int[DEBTS];
        private final int[] unspent = new int[COLOURS];
        int leastGrowth;
        int chosen;

        void choose(Ledger ledger, Coast coast, Law law) {
            for (int d = 0; d < coast.debts; d++) {
                grown[d] = ledger.growth(d, coast, law);
            }
            for (int k = 0; k < COLOURS; k++) {
                unspent[k] = ledger.unspent(k);
            }
            leastGrowth = ABOVE_ALL;
            chosen = 0;
            branch(coast.debts - 1, 0, 0, ledger, coast);
        }

        /** Without a debt comes ahead of with it, highest first: so sets come by rising bits. */
        private void branch(int debt, int bits, int growth, Ledger ledger, Coast coast) {
            if (growth >= leastGrowth) {
                return;
            }
            if (debt < 0) {
                leastGrowth = growth;
                chosen = bits;
                return;
            }
            branch(debt - 1, bits, growth + grown[debt], ledger, coast);
            int owed = ledger.owed(debt);
            int colour = coast.colour[debt];
            if (owed > 0 && owed <= unspent[colour]) {
                unspent[colour] -= owed;
                branch(debt - 1, bits | 1 << debt, growth, ledger, coast);
                unspent[colour] += owed;
            }
        }
    }

    /** Weddings, each with a dusk of its own: as many as can be, the first way. */
    private static final class Matching {
        private final long[] fitting = new long[WEDDINGS];
        private final long[] fittingAny = new long[1 << WEDDINGS];
        final int[] day = new int[WEDDINGS];
        int matched;

        void match(Coast coast) {
            findFitting(coast);
            int later = (1 << coast.weddings) - 1;
            long taken = 0;
            int held = 0;
            matched = mostMatched(later, taken);
            for (int w = 0; w < coast.weddings; w++) {
                later &= ~(1 << w);
                day[w] = firstDay(w, later, taken, matched - held - 1);
                if (day[w] != NONE) {
                    taken |= 1L << day[w];
                    held++;
                }
            }
        }

        private void findFitting(Coast coast) {
            for (int w = 0; w < coast.weddings; w++) {
                fitting[w] = coast.fittingDusks(w);
                int own = 1 << w;
                for (int set = own; set < 2 * own; set++) {
                    fittingAny[set] = fittingAny[set - own] | fitting[w];
                }
            }
        }

        private int firstDay(int wedding, int later, long taken, int wanted) {
            for (int e = 0; e <= LATEST_TERM; e++) {
                long own = 1L << e;
                boolean isFree = (fitting[wedding] & ~taken & own) != 0;
                if (isFree && mostMatched(later, taken | own) >= wanted) {
                    return e;
                }
            }
            return NONE;
        }

        /** All but the worst lack: the most weddings by which a set exceeds the dusks fit for any of it. */
        private int mostMatched(int weddings, long taken) {
            int lack = 0;
            for (int set = 1; set <= weddings; set++) {
                if ((set & ~weddings) == 0) {
                    lack = Math.max(lack, Integer.bitCount(set) - Long.bitCount(fittingAny[set] & ~taken));
                }
            }
            return Integer.bitCount(weddings) - lack;
        }
    }

    /** Two creditors who bid for a dusk's light. */
    private static final class Auction {
        static final int MOST_BID = 20;

        private final int[] bestAgainst = new int[MOST_BID + 1];
        int rests;
        int firstOwn;
        int firstOther;

        static int gain(int parts, int own, int other) {
            if (own > other) {
                return parts - own;
            }
            return own == other ? parts / 2 - own : -(own / 2);
        }

        void findRests(int parts, int most) {
            rests = 0;
            for (int other = 0; other <= most; other++) {
                bestAgainst[other] = bestGain(parts, most, other);
            }
            for (int own = 0; own <= most; own++) {
                for (int other = 0; other <= most; other++) {
                    if (gain(parts, own, other) == bestAgainst[other] && gain(parts, other, own) == bestAgainst[own]) {
                        addRest(own, other);
                    }
                }
            }
        }

        private static int bestGain(int parts, int most, int other) {
            int best = gain(parts, 0, other);
            for (int own = 1; own <= most; own++) {
                best = Math.max(best, gain(parts, own, other));
            }
            return best;
        }

        private void addRest(int own, int other) {
            if (rests == 0) {
                firstOwn = own;
                firstOther = other;
            }
            rests++;
        }
    }
}
