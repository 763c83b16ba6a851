import java.util.Arrays;

/**
 * Tenders judged, as the promises of DOC.md tell it. Each public method looks at its arguments in the
 * order of its refusals and then hands the work to one of the parts inside. All rows are made with the
 * object and used again, so that no later call makes an object.
 */
public final class BidsJudged {
    private static final int BIDDERS = 8;
    private static final int LOTS = 6;
    private static final int CELLS = BIDDERS * LOTS;
    private static final int MONEYS = 4;
    private static final int ITEMS = 4;
    private static final int SCORERS = 6;
    private static final int STAGES = 3;
    private static final int TAPE = 80;
    private static final int DEEPEST = 6;
    private static final int CHALLENGES = 20;
    private static final int LAST_TIME = 999999;
    private static final int MOST_PRICE = 99999;
    private static final int MOST_SUM = 999999;
    private static final int DAY = 1440;

    private static final int NO_ONE = -1;
    private static final int NONE = -9;
    private static final int WELL = 0;
    private static final int NOBODY = -1;
    private static final int OTHER = -2;
    private static final int STATE = -3;
    private static final int BELOW = -4;
    private static final int MISSING = -5;
    private static final int ABOVE = -6;
    private static final int BROKEN = -7;
    private static final int FAULT = -20;
    private static final long REFUSED_LONG = 4000000000000000000L;

    private final Book book = new Book();
    private final Notes notes = new Notes();
    private final Formula text = new Formula();
    private final Table table = new Table();
    private final Whole best = new Whole();
    private final Award told = new Award();
    private final Framework row = new Framework();
    private final int[] refusals = new int[8];

    public BidsJudged() {
    }

    public int time(int n) {
        if (n < 1) {
            return refuse(BELOW);
        }
        if (n > LAST_TIME - book.now) {
            return refuse(ABOVE);
        }
        book.now += n;
        return book.now;
    }

    public int rate(int money, int v) {
        if (money < 1 || money >= MONEYS) {
            return refuse(NOBODY);
        }
        if (!book.isOpen()) {
            return refuse(STATE);
        }
        int fault = inRange(v, 1, 100000);
        if (fault != WELL) {
            return refuse(fault);
        }
        int was = book.rates[money];
        book.rates[money] = v;
        return was;
    }

    public int lots(int n) {
        if (!book.isOpen()) {
            return refuse(STATE);
        }
        int fault = inRange(n, 1, LOTS);
        if (fault != WELL) {
            return refuse(fault);
        }
        int was = book.lotCount;
        book.keepLots(n);
        return was;
    }

    public int closing(int time) {
        if (book.closingAt != NO_ONE) {
            return refuse(STATE);
        }
        int fault = inRange(time, book.now, LAST_TIME);
        if (fault != WELL) {
            return refuse(fault);
        }
        book.closingAt = time;
        return 1;
    }

    public int bid(int bidder, int lot, int money, int a, int b, int c, int d, int sum, int option) {
        if (noBid(bidder, lot) || money < 0 || money >= MONEYS) {
            return refuse(NOBODY);
        }
        int leastItem = Math.min(Math.min(a, b), Math.min(c, d));
        if (leastItem < 0 || sum < 0 || option < 0) {
            return refuse(BELOW);
        }
        int greatestItem = Math.max(Math.max(a, b), Math.max(c, d));
        if (greatestItem > MOST_PRICE || sum > MOST_SUM || option > MOST_PRICE) {
            return refuse(ABOVE);
        }
        if (!book.isOpen()) {
            book.late++;
            return NONE;
        }
        int at = cell(bidder, lot);
        boolean was = book.there[at];
        book.drop(at);
        book.putTerms(at, money, sum, option);
        book.putItems(at, a, b, c, d);
        return was ? 0 : 1;
    }

    public int withdraw(int bidder, int lot) {
        if (noBid(bidder, lot)) {
            return refuse(NOBODY);
        }
        int at = cell(bidder, lot);
        if (!book.there[at]) {
            return refuse(MISSING);
        }
        if (!book.isOpen()) {
            book.late++;
            return NONE;
        }
        book.drop(at);
        return 1;
    }

    public int set(int what, int v) {
        if (what < 0 || what >= book.settings.length) {
            return refuse(OTHER);
        }
        int fault = inRange(v, 0, what == Book.ERRORS ? 2 : 100);
        if (fault != WELL) {
            return refuse(fault);
        }
        int was = book.settings[what];
        book.settings[what] = v;
        return was;
    }

    public int price(int bidder, int lot) {
        if (noBid(bidder, lot)) {
            return refuse(NOBODY);
        }
        int at = cell(bidder, lot);
        if (!book.there[at]) {
            return refuse(MISSING);
        }
        return book.priceAt(at);
    }

    public int note(int scorer, int bidder, int lot, int v) {
        if (noScorer(scorer) || noBid(bidder, lot)) {
            return refuse(NOBODY);
        }
        int at = cell(bidder, lot);
        if (!book.standsAt(at)) {
            return refuse(MISSING);
        }
        if (book.isOpen()) {
            return refuse(STATE);
        }
        int fault = inRange(v, 0, 100);
        if (fault != WELL) {
            return refuse(fault);
        }
        return notes.put(scorer, at, v);
    }

    public int bar(int scorer, int bidder, boolean on) {
        if (noScorer(scorer) || noBidder(bidder)) {
            return refuse(NOBODY);
        }
        return notes.putBar(scorer, bidder, on) ? 1 : 0;
    }

    public int quality(int bidder, int lot, int part) {
        if (noBid(bidder, lot)) {
            return refuse(NOBODY);
        }
        if (noPart(part)) {
            return refuse(OTHER);
        }
        if (!book.there[cell(bidder, lot)]) {
            return refuse(MISSING);
        }
        table.lay(book, notes, lot, NO_ONE);
        return (int) (part == 0 ? table.qualityAbove[bidder] : table.qualityBelow[bidder]);
    }

    public int feed(int n, long bytes) {
        int fault = inRange(n, 1, 8);
        if (fault != WELL) {
            return refuse(fault);
        }
        if (n > TAPE - text.bytes) {
            return refuse(ABOVE);
        }
        return text.take(n, bytes);
    }

    public int formula() {
        return text.readTape();
    }

    public long points(int bidder, int lot, int part) {
        if (noBid(bidder, lot)) {
            return refuseLong(NOBODY);
        }
        if (noPart(part)) {
            return refuseLong(OTHER);
        }
        if (!book.standsAt(cell(bidder, lot))) {
            return refuseLong(MISSING);
        }
        table.lay(book, notes, lot, NO_ONE);
        table.work(text, bidder);
        if (table.broken[bidder]) {
            return refuseLong(BROKEN);
        }
        return part == 0 ? table.pointsAbove[bidder] : table.pointsBelow[bidder];
    }

    public int order(int lot, int i) {
        if (noLot(lot)) {
            return refuse(NOBODY);
        }
        table.lay(book, notes, lot, NO_ONE);
        table.rank(text);
        return i < 0 || i >= table.ranked ? NONE : table.ranking[i];
    }

    public long gain(int bidder, int lot, int d, int part) {
        if (noBid(bidder, lot)) {
            return refuseLong(NOBODY);
        }
        if (noPart(part)) {
            return refuseLong(OTHER);
        }
        if (!book.standsAt(cell(bidder, lot))) {
            return refuseLong(MISSING);
        }
        int fault = inRange(d, 1, MOST_PRICE);
        if (fault != WELL) {
            return refuseLong(fault);
        }
        table.lay(book, notes, lot, NO_ONE);
        if (!table.workGain(text, bidder, d)) {
            return refuseLong(BROKEN);
        }
        return part == 0 ? table.fraction.above : table.fraction.below;
    }

    public int turned(int lot, int i, int j) {
        if (noPair(lot, i, j)) {
            return refuse(NOBODY);
        }
        if (!book.standsAt(cell(i, lot)) || !book.standsAt(cell(j, lot))) {
            return refuse(MISSING);
        }
        workPair(lot, i, j, NO_ONE);
        if (table.broken[i] || table.broken[j]) {
            return refuse(BROKEN);
        }
        if (!table.isAhead(i, j)) {
            return refuse(STATE);
        }
        for (int third = 0; third < BIDDERS; third++) {
            if (third != i && third != j && book.standsAt(cell(third, lot))) {
                workPair(lot, i, j, third);
                if (!table.broken[i] && !table.broken[j] && table.isAhead(j, i)) {
                    return third;
                }
            }
        }
        return NONE;
    }

    public int low(int bidder, int lot) {
        if (noBid(bidder, lot)) {
            return refuse(NOBODY);
        }
        if (!book.standsAt(cell(bidder, lot))) {
            return refuse(MISSING);
        }
        return book.isTooLow(bidder, lot) ? 1 : 0;
    }

    public int ask(int bidder, int lot, int until) {
        if (noBid(bidder, lot)) {
            return refuse(NOBODY);
        }
        int at = cell(bidder, lot);
        if (!book.standsAt(at)) {
            return refuse(MISSING);
        }
        if (book.askedUntil[at] != Book.NOT_ASKED || !book.isTooLow(bidder, lot)) {
            return refuse(STATE);
        }
        int fault = inRange(until, book.now + 1, LAST_TIME);
        if (fault != WELL) {
            return refuse(fault);
        }
        book.askedUntil[at] = until;
        return 1;
    }

    public int answer(int bidder, int lot) {
        if (noBid(bidder, lot)) {
            return refuse(NOBODY);
        }
        int at = cell(bidder, lot);
        if (!book.standsAt(at)) {
            return refuse(MISSING);
        }
        if (book.askedUntil[at] == Book.NOT_ASKED) {
            return refuse(STATE);
        }
        book.askedUntil[at] = Book.NOT_ASKED;
        return 1;
    }

    public int out(int bidder, int lot, boolean on) {
        if (noBid(bidder, lot)) {
            return refuse(NOBODY);
        }
        int at = cell(bidder, lot);
        boolean was = book.isOutAt(at);
        if (on) {
            book.toldOut[at] = true;
        } else {
            book.clearOut(at);
        }
        return was == on ? 0 : 1;
    }

    public int most(int bidder, int v) {
        if (noBidder(bidder)) {
            return refuse(NOBODY);
        }
        int fault = inRange(v, 0, LOTS);
        if (fault != WELL) {
            return refuse(fault);
        }
        int was = best.mosts[bidder];
        best.mosts[bidder] = v;
        return was;
    }

    public int rebate(int bidder, int m, int v) {
        if (noBidder(bidder)) {
            return refuse(NOBODY);
        }
        if (m < 1 || v < 0) {
            return refuse(BELOW);
        }
        if (m > LOTS || v > 50) {
            return refuse(ABOVE);
        }
        return best.putRebate(bidder, m, v);
    }

    public int whole(int what) {
        if (what < 0 || what > 1) {
            return refuse(OTHER);
        }
        if (book.isOpen()) {
            return refuse(STATE);
        }
        findBest();
        return what == 0 ? best.given : best.value;
    }

    public int winner(int lot) {
        if (noLot(lot)) {
            return refuse(NOBODY);
        }
        if (book.isOpen()) {
            return refuse(STATE);
        }
        findBest();
        return best.winners[lot];
    }

    public int award(int way) {
        if (way < 0 || way > 1) {
            return refuse(OTHER);
        }
        if (book.isOpen() || told.isAwarded) {
            return refuse(STATE);
        }
        findBest();
        told.begin(book.now + (way == 0 ? 10 : 13) * DAY);
        for (int lot = 0; lot < LOTS; lot++) {
            int winner = best.winners[lot];
            told.give(lot, winner, winner == NONE ? 0 : book.priceAt(cell(winner, lot)));
        }
        return best.given;
    }

    public int awarded(int lot) {
        if (noLot(lot)) {
            return refuse(NOBODY);
        }
        if (!told.isAwarded) {
            return refuse(STATE);
        }
        return told.winners[lot];
    }

    public int challenge(int lot, int stage) {
        if (noLot(lot)) {
            return refuse(NOBODY);
        }
        if (stage < 0 || stage >= STAGES) {
            return refuse(OTHER);
        }
        if (!told.isAwarded || told.isSigned || told.isStandstillOver(book.now)) {
            return refuse(STATE);
        }
        if (told.challenges >= CHALLENGES) {
            return refuse(ABOVE);
        }
        return told.addChallenge(lot, stage);
    }

    public int judge(int challenge, boolean right) {
        if (challenge < 0 || challenge >= told.challenges) {
            return refuse(NOBODY);
        }
        if (!told.holds(challenge)) {
            return refuse(STATE);
        }
        told.judged[challenge] = true;
        if (right) {
            makeAnew(told.lotOf[challenge], told.stageOf[challenge]);
            told.isAwarded = false;
        }
        return 1;
    }

    public int sign() {
        if (!told.isAwarded || told.isSigned || !told.isStandstillOver(book.now) || told.countHolding() > 0) {
            return refuse(STATE);
        }
        told.isSigned = true;
        return 1;
    }

    public int change(int lot, int sum) {
        if (noLot(lot)) {
            return refuse(NOBODY);
        }
        if (!told.isSigned || told.winners[lot] == NONE) {
            return refuse(STATE);
        }
        int fault = inRange(sum, 1, MOST_SUM);
        if (fault != WELL) {
            return refuse(fault);
        }
        return told.addChange(lot, sum, book.settings[Book.PART]);
    }

    public long likeness(int lot, int a, int b) {
        if (noPair(lot, a, b)) {
            return refuseLong(NOBODY);
        }
        if (!book.there[cell(a, lot)] || !book.there[cell(b, lot)]) {
            return refuseLong(MISSING);
        }
        return Rings.likenessOf(book, cell(a, lot), cell(b, lot));
    }

    public int chance(int lot, int a, int b) {
        if (noPair(lot, a, b)) {
            return refuse(NOBODY);
        }
        if (!book.there[cell(a, lot)] || !book.there[cell(b, lot)]) {
            return refuse(MISSING);
        }
        return Rings.chanceOf(book, cell(a, lot), cell(b, lot));
    }

    public int ring(int lot, int bidder) {
        if (noBid(bidder, lot)) {
            return refuse(NOBODY);
        }
        if (!book.there[cell(bidder, lot)]) {
            return refuse(MISSING);
        }
        return Rings.leastJoined(book, lot, bidder);
    }

    public int join(int bidder, int room) {
        if (noBidder(bidder)) {
            return refuse(NOBODY);
        }
        if (row.placeOf(bidder) != NO_ONE) {
            return refuse(STATE);
        }
        int fault = inRange(room, 1, 999);
        if (fault != WELL) {
            return refuse(fault);
        }
        return row.add(bidder, room);
    }

    public int call(int n) {
        int fault = inRange(n, 1, 999);
        if (fault != WELL) {
            return refuse(fault);
        }
        return row.beginCall(n);
    }

    public int decline() {
        if (row.holder == NO_ONE) {
            return refuse(STATE);
        }
        return row.passOn();
    }

    public int room(int bidder) {
        if (noBidder(bidder)) {
            return refuse(NOBODY);
        }
        int place = row.placeOf(bidder);
        if (place == NO_ONE) {
            return refuse(STATE);
        }
        return row.rooms[place];
    }

    public int count(int what) {
        if (what >= 11 && what <= 17) {
            return refusals[what - 10];
        }
        switch (what) {
            case 0: return book.now;
            case 1: return book.lotCount;
            case 2: return book.countThere();
            case 3: return book.countStanding();
            case 4: return book.late;
            case 5: return book.isOpen() ? 1 : 0;
            case 6: return told.isAwarded ? 1 : 0;
            case 7: return told.isSigned ? 1 : 0;
            case 8: return told.countHolding();
            case 9: return text.bytes;
            default: return NONE;
        }
    }

    private int refuse(int why) {
        if (why < 0 && -why < refusals.length) {
            refusals[-why]++;
        }
        return why;
    }

    private long refuseLong(int why) {
        return REFUSED_LONG - refuse(why);
    }

    private static int inRange(int v, int least, int greatest) {
        if (v < least) {
            return BELOW;
        }
        return v > greatest ? ABOVE : WELL;
    }

    private static int cell(int bidder, int lot) {
        return bidder * LOTS + lot;
    }

    private static boolean noBidder(int bidder) {
        return bidder < 0 || bidder >= BIDDERS;
    }

    private static boolean noScorer(int scorer) {
        return scorer < 0 || scorer >= SCORERS;
    }

    private static boolean noPart(int part) {
        return part < 0 || part > 1;
    }

    private boolean noLot(int lot) {
        return lot < 0 || lot >= book.lotCount;
    }

    private boolean noBid(int bidder, int lot) {
        return noBidder(bidder) || noLot(lot);
    }

    private boolean noPair(int lot, int a, int b) {
        return noLot(lot) || noBidder(a) || noBidder(b) || a == b;
    }

    private void workPair(int lot, int i, int j, int without) {
        table.lay(book, notes, lot, without);
        table.work(text, i);
        table.work(text, j);
    }

    private void findBest() {
        best.clear();
        for (int lot = 0; lot < book.lotCount; lot++) {
            table.lay(book, notes, lot, NO_ONE);
            table.rank(text);
            for (int place = 0; place < table.ranked; place++) {
                int bidder = table.ranking[place];
                best.offer(lot, bidder, place, table.prices[bidder]);
            }
        }
        best.search(book.lotCount);
    }

    private void makeAnew(int lot, int stage) {
        if (stage == 0) {
            text.useQuality();
            return;
        }
        notes.clearLot(lot);
        if (stage == 2) {
            book.clearOuts(lot);
        }
    }

    /** The bids as they were told, the clock, the moneys and the settings. */
    private static final class Book {
        static final int ERRORS = 0;
        static final int OPTIONS = 1;
        static final int LIMIT = 2;
        static final int PART = 3;
        /** No day of answer can be 0: it is later than a time that is 0 or more. */
        static final int NOT_ASKED = 0;

        final int[] settings = {0, 0, 0, 50};
        final int[] rates = {1000, 1000, 1000, 1000};
        final boolean[] there = new boolean[CELLS];
        final boolean[] toldOut = new boolean[CELLS];
        final int[] askedUntil = new int[CELLS];
        final int[] items = new int[CELLS * ITEMS];
        final int[] moneys = new int[CELLS];
        final int[] sums = new int[CELLS];
        final int[] options = new int[CELLS];
        int now;
        int closingAt = NO_ONE;
        int lotCount = 1;
        int late;

        boolean isOpen() {
            return closingAt == NO_ONE || now <= closingAt;
        }

        void keepLots(int n) {
            for (int at = 0; at < CELLS; at++) {
                if (at % LOTS >= n) {
                    drop(at);
                }
            }
            lotCount = n;
        }

        /** What was asked of a bid goes with it; what was told of its bidder (OUT) stays. */
        void drop(int at) {
            there[at] = false;
            askedUntil[at] = NOT_ASKED;
        }

        void putTerms(int at, int money, int sum, int option) {
            there[at] = true;
            moneys[at] = money;
            sums[at] = sum;
            options[at] = option;
        }

        void putItems(int at, int a, int b, int c, int d) {
            int first = at * ITEMS;
            items[first] = a;
            items[first + 1] = b;
            items[first + 2] = c;
            items[first + 3] = d;
        }

        int itemSum(int at) {
            int sum = 0;
            for (int item = 0; item < ITEMS; item++) {
                sum += items[at * ITEMS + item];
            }
            return sum;
        }

        /** Rates can't be told once bids are closed, so those of now are those of the money day. */
        int priceAt(int at) {
            long base = countedSum(at) + options[at] * settings[OPTIONS] / 100;
            long price = base * rates[moneys[at]] / 1000;
            return (int) Math.max(1L, price);
        }

        private int countedSum(int at) {
            int sum = itemSum(at);
            if (settings[ERRORS] == 1) {
                return sums[at];
            }
            return settings[ERRORS] == 2 ? Math.max(sum, sums[at]) : sum;
        }

        boolean isLapsed(int at) {
            return askedUntil[at] != NOT_ASKED && now > askedUntil[at];
        }

        boolean isOutAt(int at) {
            return toldOut[at] || isLapsed(at);
        }

        boolean standsAt(int at) {
            return there[at] && !isOutAt(at);
        }

        void clearOut(int at) {
            toldOut[at] = false;
            if (isLapsed(at)) {
                askedUntil[at] = NOT_ASKED;
            }
        }

        /** The words tell of bids only: a bidder OUT without a bid stays so. */
        void clearOuts(int lot) {
            for (int bidder = 0; bidder < BIDDERS; bidder++) {
                int at = cell(bidder, lot);
                if (there[at]) {
                    clearOut(at);
                }
            }
        }

        /** Both sides of the comparison are taken times 100 and times the number of the others. */
        boolean isTooLow(int bidder, int lot) {
            long others = 0;
            long together = 0;
            for (int other = 0; other < BIDDERS; other++) {
                int at = cell(other, lot);
                if (other != bidder && standsAt(at)) {
                    others++;
                    together += priceAt(at);
                }
            }
            return priceAt(cell(bidder, lot)) * 100L * others < settings[LIMIT] * together;
        }

        int countThere() {
            int n = 0;
            for (int at = 0; at < CELLS; at++) {
                if (there[at]) {
                    n++;
                }
            }
            return n;
        }

        int countStanding() {
            int n = 0;
            for (int at = 0; at < CELLS; at++) {
                if (standsAt(at)) {
                    n++;
                }
            }
            return n;
        }
    }

    /** Scorers' notes and those barred. */
    private static final class Notes {
        private final int[] marks = new int[SCORERS * CELLS];
        private final boolean[] barred = new boolean[SCORERS * BIDDERS];
        private final boolean[] silent = new boolean[SCORERS];

        Notes() {
            Arrays.fill(marks, NONE);
        }

        int put(int scorer, int at, int v) {
            int was = marks[scorer * CELLS + at];
            marks[scorer * CELLS + at] = v;
            return was;
        }

        boolean putBar(int scorer, int bidder, boolean on) {
            int at = scorer * BIDDERS + bidder;
            boolean was = barred[at];
            barred[at] = on;
            return was != on;
        }

        void clearLot(int lot) {
            for (int at = 0; at < marks.length; at++) {
                if (at % LOTS == lot) {
                    marks[at] = NONE;
                }
            }
        }

        /** One standing bid of a barred pair silences the scorer for the whole lot. */
        void findSilent(boolean[] standing) {
            for (int scorer = 0; scorer < SCORERS; scorer++) {
                silent[scorer] = false;
                for (int bidder = 0; bidder < BIDDERS && bidder < standing.length; bidder++) {
                    if (standing[bidder] && barred[scorer * BIDDERS + bidder]) {
                        silent[scorer] = true;
                    }
                }
            }
        }

        void weigh(int at, Fraction quality) {
            int counted = 0;
            int sum = 0;
            int least = 100;
            int greatest = 0;
            for (int scorer = 0; scorer < SCORERS; scorer++) {
                int mark = marks[scorer * CELLS + at];
                if (mark != NONE && !silent[scorer]) {
                    counted++;
                    sum += mark;
                    least = Math.min(least, mark);
                    greatest = Math.max(greatest, mark);
                }
            }
            if (counted >= 4) {
                counted -= 2;
                sum -= least + greatest;
            }
            quality.put(sum, Math.max(1, counted));
        }
    }

    /** A fraction in least terms, its lower part above 0; broken once it leaves its bounds. */
    private static final class Fraction {
        private static final long BOUND = 1000000000L;
        /** Euclid's way on longs ends in fewer than 100 steps. */
        private static final int STEPS = 200;

        long above;
        long below = 1;
        boolean broken;

        /** Parts that come in are within the bound, so their products and sums fit in a long. */
        void put(long up, long down) {
            broken = true;
            above = 0;
            below = 1;
            long common = commonPart(Math.abs(up), Math.abs(down));
            if (down == 0 || common == 0) {
                return;
            }
            long sign = down < 0 ? -1 : 1;
            long newAbove = sign * up / common;
            long newBelow = sign * down / common;
            if (Math.abs(newAbove) <= BOUND && newBelow <= BOUND) {
                broken = false;
                above = newAbove;
                below = newBelow;
            }
        }

        private static long commonPart(long a, long b) {
            for (int step = 0; step < STEPS && b != 0; step++) {
                long rest = a % b;
                a = b;
                b = rest;
            }
            return a;
        }
    }

    /** The tape and the formula, kept as a row of codes with each operation behind its two parts. */
    private static final class Formula {
        final int[] codes = new int[TAPE];
        int size = 1;
        int bytes;
        private final int[] tape = new int[TAPE];
        private final int[] draft = new int[TAPE];
        private int drafted;
        private int units;
        private int place;
        private int fault;

        Formula() {
            codes[0] = -'q';
        }

        void useQuality() {
            codes[0] = -'q';
            size = 1;
        }

        int take(int n, long fed) {
            long rest = fed;
            for (int i = 0; i < n && bytes < TAPE; i++) {
                tape[bytes] = (int) (rest & 255);
                rest >>>= 8;
                bytes++;
            }
            return bytes;
        }

        int readTape() {
            drafted = 0;
            units = 0;
            place = 0;
            fault = NO_ONE;
            readSum(0);
            if (place < bytes) {
                findFault();
            }
            bytes = 0;
            if (fault != NO_ONE) {
                return FAULT - fault;
            }
            System.arraycopy(draft, 0, codes, 0, drafted);
            size = drafted;
            return units;
        }

        private int peek() {
            return place < bytes ? tape[place] : NO_ONE;
        }

        /** Only the first one counts: what is read behind it is not looked at. */
        private void findFault() {
            if (fault == NO_ONE) {
                fault = place;
            }
        }

        private void emit(int code) {
            if (drafted < TAPE) {
                draft[drafted] = code;
                drafted++;
            }
        }

        private void readSum(int depth) {
            readTerm(depth);
            for (int i = 0; i < TAPE && fault == NO_ONE; i++) {
                int sign = peek();
                if (sign != '+' && sign != '-') {
                    return;
                }
                place++;
                readTerm(depth);
                emit(-sign);
            }
        }

        private void readTerm(int depth) {
            readUnit(depth);
            for (int i = 0; i < TAPE && fault == NO_ONE; i++) {
                int sign = peek();
                if (sign != '*' && sign != '/') {
                    return;
                }
                place++;
                readUnit(depth);
                emit(-sign);
            }
        }

        private void readUnit(int depth) {
            int sign = peek();
            if (isDigit(sign)) {
                readNumber();
            } else if (isName(sign)) {
                place++;
                units++;
                emit(-sign);
            } else if (sign == '(') {
                readBracket(depth, false);
            } else if (sign == '<' || sign == '>') {
                place++;
                readBracket(depth, true);
                emit(-sign);
            } else {
                findFault();
            }
        }

        /** A seventh digit is left where it is: nothing that may follow a number begins so. */
        private void readNumber() {
            int number = 0;
            for (int i = 0; i < 6 && isDigit(peek()); i++) {
                number = number * 10 + peek() - '0';
                place++;
            }
            units++;
            emit(number);
        }

        private void readBracket(int depth, boolean pair) {
            if (peek() != '(' || depth >= DEEPEST) {
                findFault();
                return;
            }
            place++;
            readSum(depth + 1);
            if (pair) {
                expect(',');
                if (fault == NO_ONE) {
                    readSum(depth + 1);
                }
            }
            expect(')');
        }

        private void expect(int sign) {
            if (fault != NO_ONE) {
                return;
            }
            if (peek() == sign) {
                place++;
            } else {
                findFault();
            }
        }

        private static boolean isDigit(int sign) {
            return sign >= '0' && sign <= '9';
        }

        static boolean isName(int sign) {
            switch (sign) {
                case 'p':
                case 'l':
                case 'h':
                case 'a':
                case 'q':
                case 'b':
                case 'k':
                    return true;
                default:
                    return false;
            }
        }
    }

    /** One lot laid out: who stands, with which price, quality and points. */
    private static final class Table {
        final Fraction fraction = new Fraction();
        final boolean[] in = new boolean[BIDDERS];
        final int[] prices = new int[BIDDERS];
        final long[] qualityAbove = new long[BIDDERS];
        final long[] qualityBelow = new long[BIDDERS];
        final long[] pointsAbove = new long[BIDDERS];
        final long[] pointsBelow = new long[BIDDERS];
        final boolean[] broken = new boolean[BIDDERS];
        final int[] ranking = new int[BIDDERS];
        int ranked;
        private final long[] stackAbove = new long[TAPE];
        private final long[] stackBelow = new long[TAPE];
        private int height;
        private long least;
        private long greatest;
        private long meanAbove;
        private long meanBelow;
        private int howMany;
        private long bestAbove;
        private long bestBelow;

        /** The lot as it is, or as it would be without one bidder's bid. */
        void lay(Book book, Notes notes, int lot, int without) {
            for (int bidder = 0; bidder < BIDDERS; bidder++) {
                int at = cell(bidder, lot);
                in[bidder] = bidder != without && book.standsAt(at);
                prices[bidder] = book.there[at] ? book.priceAt(at) : 0;
            }
            notes.findSilent(in);
            for (int bidder = 0; bidder < BIDDERS; bidder++) {
                notes.weigh(cell(bidder, lot), fraction);
                qualityAbove[bidder] = fraction.above;
                qualityBelow[bidder] = fraction.below;
            }
            sumUp();
        }

        private void sumUp() {
            long together = 0;
            least = Long.MAX_VALUE;
            greatest = 0;
            howMany = 0;
            bestAbove = 0;
            bestBelow = 1;
            for (int bidder = 0; bidder < BIDDERS; bidder++) {
                if (in[bidder]) {
                    least = Math.min(least, prices[bidder]);
                    greatest = Math.max(greatest, prices[bidder]);
                    together += prices[bidder];
                    howMany++;
                    if (qualityAbove[bidder] * bestBelow > bestAbove * qualityBelow[bidder]) {
                        bestAbove = qualityAbove[bidder];
                        bestBelow = qualityBelow[bidder];
                    }
                }
            }
            fraction.put(together, Math.max(1, howMany));
            meanAbove = fraction.above;
            meanBelow = fraction.below;
        }

        /** Leaves the gain in the fraction; false if it is broken. */
        boolean workGain(Formula formula, int bidder, int d) {
            work(formula, bidder);
            if (broken[bidder]) {
                return false;
            }
            long above = pointsAbove[bidder];
            long below = pointsBelow[bidder];
            prices[bidder] = Math.max(1, prices[bidder] - d);
            sumUp();
            work(formula, bidder);
            if (broken[bidder]) {
                return false;
            }
            push(above, below);
            operate('-');
            return !fraction.broken;
        }

        void work(Formula formula, int bidder) {
            height = 0;
            fraction.broken = false;
            for (int i = 0; i < formula.size && i < TAPE && !fraction.broken; i++) {
                int code = formula.codes[i];
                if (code >= 0) {
                    push(code, 1);
                } else if (Formula.isName(-code)) {
                    pushName(-code, bidder);
                } else {
                    operate(-code);
                }
            }
            broken[bidder] = fraction.broken || height != 1;
            pointsAbove[bidder] = stackAbove[0];
            pointsBelow[bidder] = stackBelow[0];
        }

        private void pushName(int name, int bidder) {
            switch (name) {
                case 'p': push(prices[bidder], 1); break;
                case 'l': push(least, 1); break;
                case 'h': push(greatest, 1); break;
                case 'a': push(meanAbove, meanBelow); break;
                case 'q': push(qualityAbove[bidder], qualityBelow[bidder]); break;
                case 'b': push(bestAbove, bestBelow); break;
                default: push(howMany, 1); break;
            }
        }

        private void push(long above, long below) {
            if (height < TAPE) {
                stackAbove[height] = above;
                stackBelow[height] = below;
                height++;
            }
        }

        /** The two upmost fractions become one. */
        private void operate(int sign) {
            int right = height - 1;
            int left = height - 2;
            if (left < 0) {
                return;
            }
            long a = stackAbove[left];
            long b = stackBelow[left];
            long c = stackAbove[right];
            long d = stackBelow[right];
            switch (sign) {
                case '+': fraction.put(a * d + c * b, b * d); break;
                case '-': fraction.put(a * d - c * b, b * d); break;
                case '*': fraction.put(a * c, b * d); break;
                case '/': fraction.put(a * d, b * c); break;
                default:
                    boolean first = sign == '<' ? a * d <= c * b : a * d >= c * b;
                    fraction.put(first ? a : c, first ? b : d);
                    break;
            }
            stackAbove[left] = fraction.above;
            stackBelow[left] = fraction.below;
            height = right;
        }

        void rank(Formula formula) {
            ranked = 0;
            for (int bidder = 0; bidder < BIDDERS; bidder++) {
                if (in[bidder]) {
                    work(formula, bidder);
                    if (!broken[bidder]) {
                        insert(bidder);
                    }
                }
            }
        }

        private void insert(int bidder) {
            int place = ranked;
            ranked++;
            while (place > 0 && isAhead(bidder, ranking[place - 1])) {
                ranking[place] = ranking[place - 1];
                place--;
            }
            ranking[place] = bidder;
        }

        boolean isAhead(int i, int j) {
            int byPoints = Long.compare(pointsAbove[i] * pointsBelow[j], pointsAbove[j] * pointsBelow[i]);
            if (byPoints != 0) {
                return byPoints > 0;
            }
            int byQuality = Long.compare(qualityAbove[i] * qualityBelow[j], qualityAbove[j] * qualityBelow[i]);
            if (byQuality != 0) {
                return byQuality > 0;
            }
            return prices[i] != prices[j] ? prices[i] < prices[j] : i < j;
        }
    }

    /**
     * The best giving of all lots. A giving is one number that is less if it is better: from its highest
     * bits the lots not given, the value, the places, and who gets each lot (a digit to the base 9 for
     * each). Each of these is a sum over the bidders and none can run over into the next, so that the
     * bidders can be taken one behind the other.
     */
    private static final class Whole {
        private static final int SETS = 1 << LOTS;
        private static final int PLACE_SHIFT = 20;
        private static final int VALUE_SHIFT = 26;
        private static final int LEFT_SHIFT = 56;
        private static final int NOT_GIVEN = 8;
        private static final long NO_WAY = Long.MAX_VALUE;
        private static final int[] DIGITS = {59049, 6561, 729, 81, 9, 1};

        final int[] mosts = new int[BIDDERS];
        final int[] winners = new int[LOTS];
        int given;
        int value;
        private final int[] rebates = new int[BIDDERS * (LOTS + 1)];
        private final int[] places = new int[CELLS];
        private final int[] prices = new int[CELLS];
        private final long[] best = new long[SETS];
        private final long[] costs = new long[SETS];

        Whole() {
            Arrays.fill(mosts, LOTS);
        }

        int putRebate(int bidder, int m, int v) {
            int at = bidder * (LOTS + 1) + m;
            int was = rebates[at];
            rebates[at] = v;
            return was;
        }

        void clear() {
            Arrays.fill(places, NO_ONE);
        }

        void offer(int lot, int bidder, int place, int price) {
            places[cell(bidder, lot)] = place;
            prices[cell(bidder, lot)] = price;
        }

        void search(int lotCount) {
            Arrays.fill(best, NO_WAY);
            best[0] = 0;
            for (int bidder = 0; bidder < BIDDERS; bidder++) {
                for (int set = 1; set < SETS; set++) {
                    costs[set] = costOf(bidder, set);
                }
                addBidder();
            }
            long least = NO_WAY;
            for (int set = 0; set < SETS; set++) {
                if (best[set] != NO_WAY) {
                    least = Math.min(least, best[set] + costOfRest(set, lotCount));
                }
            }
            keep(least, lotCount);
        }

        private long costOf(int bidder, int set) {
            int m = Integer.bitCount(set);
            if (m > mosts[bidder]) {
                return NO_WAY;
            }
            long sum = 0;
            long cost = 0;
            for (int lot = 0; lot < LOTS; lot++) {
                if (((set >> lot) & 1) == 1) {
                    int at = cell(bidder, lot);
                    if (places[at] == NO_ONE) {
                        return NO_WAY;
                    }
                    sum += prices[at];
                    cost += ((long) places[at] << PLACE_SHIFT) + bidder * DIGITS[lot];
                }
            }
            long hundredths = sum * (100 - rebates[bidder * (LOTS + 1) + m]);
            return cost + (((hundredths + 99) / 100) << VALUE_SHIFT);
        }

        private static long costOfRest(int set, int lotCount) {
            long cost = 0;
            for (int lot = 0; lot < LOTS && lot < lotCount; lot++) {
                if (((set >> lot) & 1) == 0) {
                    cost += (1L << LEFT_SHIFT) + NOT_GIVEN * DIGITS[lot];
                }
            }
            return cost;
        }

        /** Sets go downwards, so that what a set is built on is still without this bidder. */
        private void addBidder() {
            for (int set = SETS - 1; set > 0; set--) {
                for (int part = set; part > 0; part = (part - 1) & set) {
                    long before = best[set - part];
                    if (costs[part] != NO_WAY && before != NO_WAY) {
                        best[set] = Math.min(best[set], before + costs[part]);
                    }
                }
            }
        }

        private void keep(long found, int lotCount) {
            given = lotCount - (int) (found >> LEFT_SHIFT);
            value = (int) ((found >> VALUE_SHIFT) & ((1L << (LEFT_SHIFT - VALUE_SHIFT)) - 1));
            int digits = (int) (found & ((1L << PLACE_SHIFT) - 1));
            for (int lot = LOTS - 1; lot >= 0; lot--) {
                int digit = digits % 9;
                digits /= 9;
                winners[lot] = lot >= lotCount || digit == NOT_GIVEN ? NONE : digit;
            }
        }
    }

    /** What is awarded, its standstill, challenges, and changes behind the signing. */
    private static final class Award {
        boolean isAwarded;
        boolean isSigned;
        int challenges;
        final int[] winners = new int[LOTS];
        final int[] lotOf = new int[CHALLENGES];
        final int[] stageOf = new int[CHALLENGES];
        final boolean[] judged = new boolean[CHALLENGES];
        private final int[] roundOf = new int[CHALLENGES];
        private final int[] prices = new int[LOTS];
        private final long[] changed = new long[LOTS];
        private int round;
        private int standstillUntil;

        void begin(int until) {
            isAwarded = true;
            standstillUntil = until;
            round++;
        }

        void give(int lot, int winner, int price) {
            winners[lot] = winner;
            prices[lot] = price;
        }

        boolean isStandstillOver(int now) {
            return now > standstillUntil;
        }

        int addChallenge(int lot, int stage) {
            int number = challenges;
            lotOf[number] = lot;
            stageOf[number] = stage;
            roundOf[number] = round;
            challenges++;
            return number;
        }

        boolean holds(int challenge) {
            return isAwarded && !judged[challenge] && roundOf[challenge] == round;
        }

        int countHolding() {
            int n = 0;
            for (int challenge = 0; challenge < challenges && challenge < CHALLENGES; challenge++) {
                if (holds(challenge)) {
                    n++;
                }
            }
            return n;
        }

        int addChange(int lot, int sum, int part) {
            long together = changed[lot] + sum;
            if (together * 100 > (long) part * prices[lot]) {
                return NONE;
            }
            changed[lot] = together;
            return (int) together;
        }
    }

    /** Likeness of bids beyond chance. */
    private static final class Rings {
        private Rings() {
        }

        static long likenessOf(Book book, int one, int other) {
            return likenessInOrder(book, one, other, 0, 1, 2);
        }

        /** The other's items in the order i, j, k and the one that is left of 0 to 3. */
        private static long likenessInOrder(Book book, int one, int other, int i, int j, int k) {
            long oneSum = book.itemSum(one);
            long otherSum = book.itemSum(other);
            int a = one * ITEMS;
            int b = other * ITEMS;
            int left = 6 - i - j - k;
            return Math.abs(book.items[a] * otherSum - book.items[b + i] * oneSum)
                + Math.abs(book.items[a + 1] * otherSum - book.items[b + j] * oneSum)
                + Math.abs(book.items[a + 2] * otherSum - book.items[b + k] * oneSum)
                + Math.abs(book.items[a + 3] * otherSum - book.items[b + left] * oneSum);
        }

        static int chanceOf(Book book, int one, int other) {
            long likeness = likenessOf(book, one, other);
            int n = 0;
            for (int i = 0; i < ITEMS; i++) {
                for (int j = 0; j < ITEMS; j++) {
                    for (int k = 0; k < ITEMS; k++) {
                        boolean order = i != j && i != k && j != k;
                        if (order && likenessInOrder(book, one, other, i, j, k) <= likeness) {
                            n++;
                        }
                    }
                }
            }
            return n;
        }

        /** A likeness of 0 is never above the bound, so one test of the bound serves both cases. */
        private static boolean areJoined(Book book, int one, int other) {
            long likeness = likenessOf(book, one, other);
            long product = (long) book.itemSum(one) * book.itemSum(other);
            if (likeness * 50 > product) {
                return false;
            }
            return likeness == 0 || chanceOf(book, one, other) == 1;
        }

        static int leastJoined(Book book, int lot, int bidder) {
            int reached = 1 << bidder;
            int looked = 0;
            for (int i = 0; i < BIDDERS && looked != reached; i++) {
                int from = Integer.numberOfTrailingZeros(reached & ~looked);
                looked |= 1 << from;
                reached |= joinedWith(book, lot, from, reached);
            }
            return Integer.numberOfTrailingZeros(reached);
        }

        private static int joinedWith(Book book, int lot, int from, int reached) {
            int found = 0;
            for (int other = 0; other < BIDDERS; other++) {
                int at = cell(other, lot);
                boolean isNew = ((reached >> other) & 1) == 0;
                if (isNew && book.there[at] && areJoined(book, cell(from, lot), at)) {
                    found |= 1 << other;
                }
            }
            return found;
        }
    }

    /** The framework's row and its latest call. */
    private static final class Framework {
        final int[] rooms = new int[BIDDERS];
        /** Whose the latest call is, by place in the row; nobody's if it went to none. */
        int holder = NO_ONE;
        private final int[] members = new int[BIDDERS];
        private int size;
        private int latest = NO_ONE;
        private int first = NO_ONE;
        private int wanted;

        int placeOf(int bidder) {
            for (int place = 0; place < size && place < BIDDERS; place++) {
                if (members[place] == bidder) {
                    return place;
                }
            }
            return NO_ONE;
        }

        int add(int bidder, int room) {
            if (size < BIDDERS) {
                members[size] = bidder;
                rooms[size] = room;
                size++;
            }
            return size;
        }

        int beginCall(int n) {
            wanted = n;
            int to = nextWithRoom(latest, NO_ONE);
            first = to;
            return hand(to);
        }

        int passOn() {
            rooms[holder] += wanted;
            return hand(nextWithRoom(holder, first));
        }

        /** Once round from the place behind, at most up to the place where it must stop. */
        private int nextWithRoom(int from, int stop) {
            int place = from;
            for (int i = 0; i < size; i++) {
                place = place + 1 < size ? place + 1 : 0;
                if (place == stop) {
                    return NO_ONE;
                }
                if (rooms[place] >= wanted) {
                    return place;
                }
            }
            return NO_ONE;
        }

        /** Who declines has been gone to all the same, so the latest place stays if it ends at none. */
        private int hand(int to) {
            holder = to;
            if (to == NO_ONE) {
                return NONE;
            }
            rooms[to] -= wanted;
            latest = to;
            return members[to];
        }
    }
}
