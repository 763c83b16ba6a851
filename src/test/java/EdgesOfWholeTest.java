/** The edges that parts III and IV name: too low, asked, out, the whole; promises 19 to 26. */
public final class EdgesOfWholeTest {
    private static final int LEAST = Integer.MIN_VALUE;
    private static final int GREATEST = Integer.MAX_VALUE;
    private static final int[] NOBODY = {-1, 8, LEAST, GREATEST};

    public static void main(String[] args) {
        limit();
        meanOfOthers();
        lowIsRefused();
        dayOfAnswer();
        askIsRefused();
        answeredByThatTime();
        behindThatTime();
        answerIsRefused();
        sins();
        outIsRefused();
        outOfOneThatDidNotAnswer();
        inItsOrder();
        most();
        mostIsRefused();
        valueRoundedUp();
        rebateOfM();
        rebateIsRefused();
        mostLotsGiven();
        leastValue();
        leastPlaces();
        greatestPlaces();
        leastBidders();
        noneBehindAll();
        wholeIsRefused();
        winnerIsRefused();
        Check.end("EdgesOfWholeTest");
    }

    private static void whole(BidsJudged x, String when, int value, int... winners) {
        int given = 0;
        for (int lot = 0; lot < winners.length; lot++) {
            Check.due(when + ": winner(" + lot + ")", x.winner(lot), winners[lot]);
            given += winners[lot] == -9 ? 0 : 1;
        }
        Check.due(when + ": lots given", x.whole(0), given);
        Check.due(when + ": value", x.whole(1), value);
    }

    private static BidsJudged lots(int n) {
        BidsJudged x = new BidsJudged();
        x.lots(n);
        return x;
    }

    private static void limit() {
        Check.says("a BID whose PRICE is less than LIMIT (0 .. 100 hundredths; 0 at first)");
        BidsJudged x = Make.open(50, 100);
        Check.due("0 at first", x.low(0, 0), 0);
        int[] limits = {49, 50, 51, 100, 0};
        int[] want = {0, 0, 1, 1, 0};
        for (int i = 0; i < limits.length; i++) {
            x.set(2, limits[i]);
            Check.due("50 of 100, limit " + limits[i], x.low(0, 0), want[i]);
        }
        x.set(2, 100);
        Check.due("the dearer one", x.low(1, 0), 0);
        Make.bid(x, 0, 0, 99);
        Check.due("99 of 100", x.low(0, 0), 1);
        Make.bid(x, 0, 0, 100);
        Check.due("100 of 100", x.low(0, 0), 0);
    }

    private static void meanOfOthers() {
        Check.says("of the mean PRICE of the LOT's others that STAND (fractions; none without others)");
        BidsJudged x = Make.open(50, 100, 101);
        x.set(2, 50);
        Check.due("50 of 100 and a half", x.low(0, 0), 1);
        Make.bid(x, 2, 0, 100);
        Check.due("50 of 100", x.low(0, 0), 0);
        x.set(2, 90);
        x.out(2, 0, true);
        Make.bid(x, 1, 0, 60);
        Make.bid(x, 0, 0, 53);
        Check.due("its own price is not in it", x.low(0, 0), 1);
        Make.bid(x, 0, 0, 54);
        Check.due("54 of 60", x.low(0, 0), 0);
        x.out(2, 0, false);
        Check.due("of all that stand", x.low(0, 0), 1);
        x.out(1, 0, true);
        x.out(2, 0, true);
        x.set(2, 100);
        Check.due("without others", x.low(0, 0), 0);
        BidsJudged y = new BidsJudged();
        y.rate(1, 100000);
        y.set(0, 1);
        y.set(1, 100);
        y.set(2, 100);
        for (int bidder = 0; bidder < 8; bidder++) {
            y.bid(bidder, 0, 1, 0, 0, 0, 0, bidder == 0 ? 999998 : 999999, 99999);
        }
        Check.due("the greatest prices", y.low(1, 0), 0);
        Check.due("one just below them", y.low(0, 0), 1);
    }

    private static void lowIsRefused() {
        Check.says("Whether a BID is TOO LOW: 1, 0. -1; -5.");
        BidsJudged x = Make.open(50, 100);
        for (int n : NOBODY) {
            Check.due("bidder " + n, x.low(n, 0), -1);
            Check.due("lot " + n, x.low(0, n), -1);
        }
        Check.due("lot 1 of 1", x.low(0, 1), -1);
        Check.due("no bid", x.low(2, 0), -5);
        x.out(1, 0, true);
        Check.due("it doesn't stand", x.low(1, 0), -5);
    }

    private static void dayOfAnswer() {
        Check.says("may be ASKED (told, with a DAY of answer: a TIME later than now);");
        BidsJudged x = Make.open(50, 100);
        x.set(2, 51);
        x.time(5);
        Check.due("earlier", x.ask(0, 0, 4), -4);
        Check.due("now", x.ask(0, 0, 5), -4);
        Check.due("the next minute", x.ask(0, 0, 6), 1);
        x.answer(0, 0);
        Check.due("the last minute", x.ask(0, 0, 999999), 1);
        x.answer(0, 0);
        Check.due("beyond it", x.ask(0, 0, 1000000), -6);
        x.time(999994);
        Check.due("no minute is later", x.ask(0, 0, 999999), -4);
        Check.due("no minute is later, beyond", x.ask(0, 0, 1000000), -6);
        BidsJudged y = Make.closed(50, 100);
        y.set(2, 51);
        Check.due("behind closing, too", y.ask(0, 0, 2), 1);
    }

    private static void askIsRefused() {
        Check.says("It is ASKED until a TIME: 1. -1; -5; -3 it is not TOO LOW, or ASKED; -4 not later than now; -6.");
        BidsJudged x = Make.open(50, 100, 100);
        x.set(2, 51);
        for (int n : NOBODY) {
            Check.due("bidder " + n, x.ask(n, 0, 9), -1);
            Check.due("lot " + n, x.ask(0, n, 9), -1);
        }
        Check.due("lot 1 of 1", x.ask(0, 1, 9), -1);
        Check.due("no bid", x.ask(3, 0, 9), -5);
        x.out(2, 0, true);
        Check.due("it doesn't stand", x.ask(2, 0, 9), -5);
        Check.due("not too low", x.ask(1, 0, 9), -3);
        Check.due("0", x.ask(0, 0, 0), -4);
        Check.due("the least int", x.ask(0, 0, LEAST), -4);
        Check.due("the greatest int", x.ask(0, 0, GREATEST), -6);
        Check.due("asked", x.ask(0, 0, 9), 1);
        Check.due("it is asked", x.ask(0, 0, 10), -3);
        x.set(2, 0);
        Check.due("neither too low nor not asked", x.ask(0, 0, 10), -3);
    }

    private static void answeredByThatTime() {
        Check.says("ANSWERED (told) by that TIME it is well;");
        BidsJudged x = Make.open(50, 100);
        x.set(2, 51);
        x.ask(0, 0, 3);
        x.time(3);
        Check.due("in that minute it stands", x.count(3), 2);
        Check.due("it answers", x.answer(0, 0), 1);
        x.time(1);
        Check.due("it stands behind it", x.count(3), 2);
        Check.due("it may be asked again", x.ask(0, 0, 5), 1);
        Check.due("it answers at once", x.answer(0, 0), 1);
        x.time(100);
        Check.due("it stands still", x.count(3), 2);
    }

    private static void behindThatTime() {
        Check.says("else, as TIME is behind it, the BID is OUT.");
        BidsJudged x = Make.open(50, 100);
        x.set(2, 51);
        x.ask(0, 0, 3);
        x.set(2, 0);
        x.time(3);
        Check.due("not in that minute", x.count(3), 2);
        x.time(1);
        Check.due("behind it", x.count(3), 1);
        Check.due("there it is", x.count(2), 2);
        Check.due("not in order", x.order(0, 1), -9);
        Check.due("it can't answer", x.answer(0, 0), -5);
        x.time(999995);
        Check.due("to the end", x.count(3), 1);
        BidsJudged y = Make.open(50, 100);
        y.set(2, 51);
        y.ask(0, 0, 3);
        y.time(9);
        Check.due("told anew it is not asked", Make.bid(y, 0, 0, 50), 0);
        Check.due("and stands", y.count(3), 2);
    }

    private static void answerIsRefused() {
        Check.says("It ANSWERED: 1 (it is ASKED no more). -1; -5; -3 it is not ASKED.");
        BidsJudged x = Make.open(50, 100, 30);
        x.set(2, 51);
        x.ask(0, 0, 3);
        x.ask(2, 0, 3);
        for (int n : NOBODY) {
            Check.due("bidder " + n, x.answer(n, 0), -1);
            Check.due("lot " + n, x.answer(0, n), -1);
        }
        Check.due("lot 1 of 1", x.answer(0, 1), -1);
        Check.due("no bid", x.answer(3, 0), -5);
        Check.due("not asked", x.answer(1, 0), -3);
        x.out(2, 0, true);
        Check.due("it doesn't stand", x.answer(2, 0), -5);
        x.out(2, 0, false);
        Check.due("asked still", x.answer(2, 0), 1);
        Check.due("asked no more", x.answer(2, 0), -3);
        x.withdraw(0, 0);
        Make.bid(x, 0, 0, 50);
        Check.due("a new bid is not asked", x.answer(0, 0), -3);
    }

    private static void sins() {
        Check.says("SINS: a BIDDER OUT for a LOT (told) is so till it is told otherwise.");
        BidsJudged x = lots(2);
        Make.bid(x, 0, 0, 10);
        Make.bid(x, 0, 1, 10);
        x.out(0, 1, true);
        Check.due("not for another lot", x.points(0, 0, 1), 1);
        Check.due("for that lot", x.count(3), 1);
        Make.bid(x, 0, 1, 11);
        Check.due("a bid told anew", x.count(3), 1);
        x.withdraw(0, 1);
        Make.bid(x, 0, 1, 12);
        Check.due("a bid behind one withdrawn", x.count(3), 1);
        x.lots(1);
        x.lots(2);
        Make.bid(x, 0, 1, 13);
        Check.due("a lot that was none for a time", x.count(3), 1);
        x.time(999999);
        Check.due("to the end", x.count(3), 1);
        Check.due("told otherwise", x.out(0, 1, false), 1);
        Check.due("it stands", x.count(3), 2);
        Check.due("without a bid", x.out(7, 0, true), 1);
        Make.bid(x, 7, 0, 5);
        Check.due("its bid doesn't stand", x.count(3), 2);
    }

    private static void outIsRefused() {
        Check.says("A BIDDER is OUT for a LOT, or not: 1; 0 if it was so. -1.");
        BidsJudged x = lots(2);
        for (int n : NOBODY) {
            Check.due("bidder " + n, x.out(n, 0, true), -1);
            Check.due("lot " + n, x.out(0, n, false), -1);
        }
        Check.due("lot 2 of 2", x.out(0, 2, true), -1);
        int[] bidders = {0, 7};
        for (int bidder : bidders) {
            Check.due("it was not", x.out(bidder, 1, false), 0);
            Check.due("out", x.out(bidder, 1, true), 1);
            Check.due("it was so", x.out(bidder, 1, true), 0);
            Check.due("not for lot 0", x.out(bidder, 0, false), 0);
        }
        Check.due("not out", x.out(7, 1, false), 1);
        Check.due("bidder 0 is still", x.out(0, 1, true), 0);
    }

    private static void outOfOneThatDidNotAnswer() {
        Check.says("(Of a BID that did not answer in time: not is told, too: it is ASKED no more.)");
        BidsJudged x = Make.open(50, 100);
        x.set(2, 51);
        x.ask(0, 0, 3);
        Check.due("asked it is not out", x.out(0, 0, false), 0);
        Check.due("and asked still", x.ask(0, 0, 5), -3);
        x.time(4);
        Check.due("it is out", x.out(0, 0, true), 0);
        Check.due("not", x.out(0, 0, false), 1);
        Check.due("it stands", x.count(3), 2);
        Check.due("it is asked no more", x.answer(0, 0), -3);
        Check.due("it may be asked again", x.ask(0, 0, 6), 1);
        x.out(0, 0, true);
        x.time(3);
        Check.due("told and without an answer, not", x.out(0, 0, false), 1);
        Check.due("both are gone", x.count(3), 2);
    }

    private static void inItsOrder() {
        Check.says("THE WHOLE: each LOT goes to some BIDDER in its ORDER, or to none;");
        BidsJudged x = lots(3);
        Make.bid(x, 0, 0, 10);
        Make.bid(x, 1, 0, 20);
        Make.bid(x, 2, 1, 30);
        Make.close(x);
        whole(x, "as they are", 40, 0, 2, -9);
        Check.formula(x, "1/(p-10)");
        whole(x, "0 is broken", 50, 1, 2, -9);
        x.out(1, 0, true);
        whole(x, "1 is out", 30, -9, 2, -9);
        x.out(2, 1, true);
        whole(x, "all are out", 0, -9, -9, -9);
    }

    private static void most() {
        Check.says("no BIDDER gets more than its MOST (0 .. 6; 6 at first).");
        BidsJudged x = lots(6);
        for (int lot = 0; lot < 6; lot++) {
            Make.bid(x, 7, lot, 10 + lot);
        }
        Make.close(x);
        Check.due("6 at first", x.whole(0), 6);
        for (int v = 5; v >= 0; v--) {
            x.most(7, v);
            Check.due("most " + v, x.whole(0), v);
            Check.due("the cheapest of them, most " + v, x.whole(1), 10 * v + v * (v - 1) / 2);
        }
        x.most(7, 6);
        Check.due("6 again", x.whole(1), 75);
    }

    private static void mostIsRefused() {
        Check.says("MOST of a BIDDER: what it was. -1; -4; -6.");
        BidsJudged x = new BidsJudged();
        for (int n : NOBODY) {
            Check.due("bidder " + n, x.most(n, 1), -1);
        }
        int[] bidders = {0, 7};
        for (int bidder : bidders) {
            Check.due("-1", x.most(bidder, -1), -4);
            Check.due("the least int", x.most(bidder, LEAST), -4);
            Check.due("7", x.most(bidder, 7), -6);
            Check.due("the greatest int", x.most(bidder, GREATEST), -6);
            Check.due("6 at first", x.most(bidder, 0), 6);
            Check.due("the least", x.most(bidder, 6), 0);
            Check.due("the greatest", x.most(bidder, 3), 6);
        }
    }

    private static void valueRoundedUp() {
        Check.says("its PRICES of these together, less REBATE m hundredths of them (told for each m: 0 .. 50; 0 at"
            + " first), rounded up.");
        BidsJudged x = lots(2);
        Make.bid(x, 0, 0, 101);
        Make.bid(x, 1, 1, 101);
        Make.close(x);
        Check.due("0 at first", x.whole(1), 202);
        x.rebate(0, 1, 1);
        Check.due("99 and 99 hundredths", x.whole(1), 100 + 101);
        x.rebate(0, 1, 50);
        Check.due("50 and a half", x.whole(1), 51 + 101);
        x.rebate(1, 1, 50);
        Check.due("each bidder's is rounded", x.whole(1), 51 + 51);
        BidsJudged y = lots(2);
        Make.bid(y, 0, 0, 1);
        Make.bid(y, 0, 1, 1);
        Make.close(y);
        y.rebate(0, 2, 50);
        Check.due("together 1, not each", y.whole(1), 1);
        BidsJudged z = Make.closed(100);
        z.rebate(0, 1, 50);
        Check.due("50, nothing to round", z.whole(1), 50);
        z.rebate(0, 1, 49);
        Check.due("51, nothing to round", z.whole(1), 51);
        BidsJudged w = Make.closed(99);
        w.rebate(0, 1, 1);
        Check.due("98 and one hundredth", w.whole(1), 99);
    }

    private static void rebateOfM() {
        Check.says("VALUE of a BIDDER who gets m LOTS:");
        BidsJudged x = lots(6);
        for (int lot = 0; lot < 6; lot++) {
            Make.bid(x, 3, lot, 100);
        }
        Make.close(x);
        for (int m = 1; m <= 6; m++) {
            x.rebate(3, m, 10 + m);
        }
        for (int m = 6; m >= 1; m--) {
            x.most(3, m);
            Check.due("of " + m + " lots", x.whole(1), m * (90 - m));
        }
        x.rebate(2, 1, 50);
        Check.due("another bidder's is none of its", x.whole(1), 89);
        BidsJudged y = lots(6);
        y.set(0, 1);
        y.set(1, 100);
        y.rate(1, 100000);
        for (int lot = 0; lot < 6; lot++) {
            y.bid(0, lot, 1, 0, 0, 0, 0, 999999, 99999);
        }
        Make.close(y);
        Check.due("the greatest value", y.whole(1), 659998800);
        y.rebate(0, 6, 50);
        Check.due("half of it", y.whole(1), 329999400);
    }

    private static void rebateIsRefused() {
        Check.says("REBATE of a BIDDER for m LOTS (1 .. 6): what it was. -1; -4; -6.");
        BidsJudged x = new BidsJudged();
        for (int n : NOBODY) {
            Check.due("bidder " + n, x.rebate(n, 1, 1), -1);
        }
        int[] below = {0, -1, LEAST};
        for (int m : below) {
            Check.due("m " + m, x.rebate(0, m, 1), -4);
        }
        int[] above = {7, GREATEST};
        for (int m : above) {
            Check.due("m " + m, x.rebate(0, m, 1), -6);
        }
        Check.due("v -1", x.rebate(0, 1, -1), -4);
        Check.due("v, the least int", x.rebate(0, 1, LEAST), -4);
        Check.due("v 51", x.rebate(0, 1, 51), -6);
        Check.due("v, the greatest int", x.rebate(0, 1, GREATEST), -6);
        for (int m = 1; m <= 6; m++) {
            Check.due("0 at first", x.rebate(7, m, 50), 0);
            Check.due("50", x.rebate(7, m, m), 50);
        }
        for (int m = 1; m <= 6; m++) {
            Check.due("of " + m, x.rebate(7, m, 0), m);
            Check.due("of another bidder", x.rebate(0, m, 0), 0);
        }
    }

    private static void mostLotsGiven() {
        Check.says("BEST: the most LOTS given,");
        BidsJudged x = lots(2);
        Make.bid(x, 0, 0, 10);
        Make.bid(x, 0, 1, 10);
        Make.bid(x, 1, 0, 99999);
        Make.close(x);
        x.most(0, 1);
        whole(x, "two dear ones ahead of one", 100009, 1, 0);
        x.most(1, 0);
        whole(x, "one can be given", 10, 0, -9);
    }

    private static void leastValue() {
        Check.says("of these the least VALUE together,");
        BidsJudged x = lots(2);
        Make.bid(x, 0, 0, 100);
        Make.bid(x, 0, 1, 100);
        Make.bid(x, 1, 0, 99);
        Make.bid(x, 2, 1, 98);
        Make.close(x);
        x.note(0, 0, 0, 100);
        x.note(0, 0, 1, 100);
        whole(x, "the last in order, but the least", 197, 1, 2);
        x.rebate(0, 2, 1);
        whole(x, "198 is more", 197, 1, 2);
        x.rebate(0, 2, 2);
        whole(x, "196 is less", 196, 0, 0);
    }

    private static void leastPlaces() {
        Check.says("of these the least sum of places in ORDER (0 the first),");
        BidsJudged x = lots(2);
        for (int lot = 0; lot < 2; lot++) {
            Make.bid(x, 1, lot, 100);
            Make.bid(x, 2, lot, 100);
        }
        Make.close(x);
        x.note(0, 2, 0, 50);
        whole(x, "the first of each", 200, 2, 1);
        x.most(1, 1);
        x.most(2, 1);
        whole(x, "one for each", 200, 2, 1);
        x.note(0, 2, 1, 60);
        whole(x, "like sums of places", 200, 1, 2);
        x.most(1, 6);
        x.most(2, 6);
        whole(x, "the first of both", 200, 2, 2);
    }

    private static void greatestPlaces() {
        Check.says("of these the least VALUE together, of these the least sum of places in ORDER (0 the first),");
        BidsJudged x = lots(6);
        for (int at = 0; at < 48; at++) {
            Make.bid(x, at / 6, at % 6, 100 - at / 6);
        }
        Make.close(x);
        Check.formula(x, "p");
        Check.due("the dearest is the first", x.order(5, 0), 0);
        whole(x, "the last of each", 6 * 93, 7, 7, 7, 7, 7, 7);
        x.most(7, 5);
        whole(x, "the last but for one", 5 * 93 + 94, 6, 7, 7, 7, 7, 7);
    }

    private static void leastBidders() {
        Check.says("of these the one whose LOTS by numbers go to the least BIDDERS (none behind all).");
        BidsJudged x = lots(3);
        for (int lot = 0; lot < 3; lot++) {
            for (int bidder = 7; bidder >= 5; bidder--) {
                Make.bid(x, bidder, lot, 100);
                x.most(bidder, 1);
            }
        }
        Make.close(x);
        whole(x, "in the row of their numbers", 300, 5, 6, 7);
        x.most(6, 2);
        x.most(5, 0);
        whole(x, "lot 0 ahead of lot 1", 300, 6, 6, 7);
        x.most(6, 1);
        x.most(7, 2);
        whole(x, "the least for lot 0", 300, 6, 7, 7);
    }

    private static void noneBehindAll() {
        Check.says("go to the least BIDDERS (none behind all).");
        BidsJudged x = lots(3);
        for (int lot = 0; lot < 3; lot++) {
            Make.bid(x, 7, lot, 100);
        }
        Make.close(x);
        x.most(7, 1);
        whole(x, "one of three", 100, 7, -9, -9);
        x.most(7, 2);
        whole(x, "two of three", 200, 7, 7, -9);
        x.most(7, 3);
        whole(x, "all", 300, 7, 7, 7);
    }

    private static void wholeIsRefused() {
        Check.says("THE WHOLE: what 0 LOTS given, 1 VALUE together. -2; -3 BIDS are OPEN.");
        BidsJudged x = new BidsJudged();
        int[] other = {-1, 2, LEAST, GREATEST};
        for (int what : other) {
            Check.due("what " + what, x.whole(what), -2);
        }
        Check.due("open", x.whole(0), -3);
        x.closing(0);
        Check.due("open at closing", x.whole(1), -3);
        x.time(1);
        Check.due("no bids: no lots", x.whole(0), 0);
        Check.due("no bids: no value", x.whole(1), 0);
    }

    private static void winnerIsRefused() {
        Check.says("Who gets a LOT in it; -9 nobody. -1; -3.");
        BidsJudged x = lots(6);
        Make.bid(x, 7, 5, 10);
        for (int n : NOBODY) {
            Check.due("lot " + n, x.winner(n), -1);
        }
        Check.due("lot 6 of 6", x.winner(6), -1);
        x.closing(0);
        Check.due("open at closing", x.winner(5), -3);
        x.time(1);
        Check.due("the last lot", x.winner(5), 7);
        Check.due("nobody", x.winner(0), -9);
    }
}
