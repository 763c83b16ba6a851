/** The edges that part II names of order, gain and turned, with promises 16 to 18. */
public final class EdgesOfOrderTest {
    private static final int[] NOBODY = {-1, 8, Integer.MIN_VALUE, Integer.MAX_VALUE};
    private static final int[] NO_PART = {-1, 2, Integer.MIN_VALUE, Integer.MAX_VALUE};
    private static final long REFUSED = 4000000000000000000L;

    public static void main(String[] args) {
        greatestPoints();
        likePoints();
        thoseInOrder();
        noneSuch();
        gain();
        gainOneAtLeast();
        gainAnew();
        gainIsRefused();
        gainBrokenEitherWay();
        gainBeyondItsBound();
        gainChangesNothing();
        turnedByEachName();
        theLeastThird();
        noThird();
        turnedNotBroken();
        turnedWithoutABarredOne();
        turnedIsRefused();
        Check.end("EdgesOfOrderTest");
    }

    private static void order(BidsJudged x, String when, int... want) {
        for (int i = 0; i < want.length; i++) {
            Check.due(when + " at " + i, x.order(0, i), want[i]);
        }
        Check.due(when + ", none behind", x.order(0, want.length), -9);
    }

    private static void gain(BidsJudged x, String when, int d, long above, long below) {
        Check.due(when + " by " + d + ", above", x.gain(0, 0, d, 0), above);
        Check.due(when + " by " + d + ", below", x.gain(0, 0, d, 1), below);
    }

    private static void greatestPoints() {
        Check.says("the greatest POINTS first,");
        BidsJudged x = Make.closed(30, 10, 20);
        x.note(0, 1, 0, 100);
        Check.formula(x, "p");
        order(x, "p", 0, 2, 1);
        Check.formula(x, "0-p");
        order(x, "0-p", 1, 2, 0);
        Check.formula(x, "1/p");
        order(x, "1/p", 1, 2, 0);
        Check.formula(x, "15-p");
        order(x, "above and below 0", 1, 2, 0);
        Check.formula(x, "p/7");
        order(x, "sevenths", 0, 2, 1);
    }

    private static void likePoints() {
        Check.says("of like ones the greater QUALITY, then the less PRICE, then the lesser BIDDER.");
        BidsJudged x = Make.closed(30, 10, 20, 10, 30, 10, 30, 20);
        Check.formula(x, "5");
        order(x, "by price, then bidder", 1, 3, 5, 2, 7, 0, 4, 6);
        x.note(0, 6, 0, 1);
        order(x, "by quality ahead of price", 6, 1, 3, 5, 2, 7, 0, 4);
        x.note(0, 7, 0, 1);
        x.note(1, 7, 0, 2);
        order(x, "by a half more", 7, 6, 1, 3, 5, 2, 0, 4);
        x.note(0, 4, 0, 1);
        x.note(1, 4, 0, 2);
        order(x, "like quality, by price", 7, 4, 6, 1, 3, 5, 2, 0);
    }

    private static void thoseInOrder() {
        Check.says("ORDER of a LOT: BIDS that STAND and are not BROKEN:");
        BidsJudged x = Make.closed(30, 10, 20, 40);
        Check.formula(x, "1/(p-20)");
        order(x, "one is broken", 0, 3, 1);
        x.out(0, 0, true);
        order(x, "one is out", 3, 1);
        Check.formula(x, "p/0");
        order(x, "all are broken");
        BidsJudged y = Make.open();
        order(y, "no bids");
    }

    private static void noneSuch() {
        Check.says("The i-th BIDDER in ORDER of a LOT; -9 there is none such. -1.");
        BidsJudged x = Make.closed(1, 2, 3, 4, 5, 6, 7, 8);
        Check.due("the first", x.order(0, 0), 0);
        Check.due("the last", x.order(0, 7), 7);
        int[] none = {8, -1, 9, Integer.MIN_VALUE, Integer.MAX_VALUE};
        for (int i : none) {
            Check.due("i " + i, x.order(0, i), -9);
        }
        for (int lot : NOBODY) {
            Check.due("lot " + lot, x.order(lot, 0), -1);
        }
        Check.due("lot 1 of 1", x.order(1, 0), -1);
        Check.due("none such is no refusal", x.count(11), 5);
    }

    private static void gain() {
        Check.says("GAIN by d: POINTS of a BID if its PRICE were d less (1 at least), all else reckoned anew, less its"
            + " POINTS now.");
        BidsJudged x = Make.closed(50, 100);
        Check.formula(x, "1/p");
        gain(x, "1/p", 25, 1, 50);
        gain(x, "1/p", 40, 2, 25);
        Check.formula(x, "0-p");
        gain(x, "0-p", 1, 1, 1);
        Check.formula(x, "p/4");
        gain(x, "p/4", 2, -1, 2);
        Check.formula(x, "7");
        gain(x, "7", 3, 0, 1);
    }

    private static void gainOneAtLeast() {
        Check.says("if its PRICE were d less (1 at least)");
        BidsJudged x = Make.closed(50, 100);
        Check.formula(x, "p");
        int[] d = {48, 49, 50, 51, 99999};
        int[] want = {-48, -49, -49, -49, -49};
        for (int i = 0; i < d.length; i++) {
            gain(x, "p", d[i], want[i], 1);
        }
        BidsJudged y = Make.closed(1);
        Check.formula(y, "p");
        gain(y, "a price of 1", 1, 0, 1);
        gain(y, "a price of 1", 99999, 0, 1);
    }

    private static void gainAnew() {
        Check.says("all else reckoned anew");
        BidsJudged x = Make.closed(50, 40, 30);
        x.note(0, 0, 0, 9);
        Check.formula(x, "l");
        gain(x, "not the least", 20, 0, 1);
        gain(x, "the least then", 25, -5, 1);
        Check.formula(x, "h");
        gain(x, "the greatest still", 5, -5, 1);
        gain(x, "the greatest no more", 45, -10, 1);
        Check.formula(x, "a");
        gain(x, "the mean", 1, -1, 3);
        gain(x, "the mean", 3, -1, 1);
        Check.formula(x, "q+b+k");
        gain(x, "quality and how many", 49, 0, 1);
        Check.formula(x, "l/p");
        gain(x, "the least by its own", 25, 2, 5);
    }

    private static void gainIsRefused() {
        Check.says("GAIN by d (1 .. 99999): part 0, 1. Refused as told: -1; -2; -5; -4; -6; -7 (either way).");
        BidsJudged x = Make.closed(50, 100);
        for (int n : NOBODY) {
            Check.due("bidder " + n, x.gain(n, 0, 1, 0), REFUSED + 1);
            Check.due("lot " + n, x.gain(0, n, 1, 0), REFUSED + 1);
        }
        Check.due("lot 1 of 1", x.gain(0, 1, 1, 0), REFUSED + 1);
        for (int part : NO_PART) {
            Check.due("part " + part, x.gain(0, 0, 1, part), REFUSED + 2);
        }
        Check.due("no bid", x.gain(2, 0, 1, 0), REFUSED + 5);
        x.out(1, 0, true);
        Check.due("it doesn't stand", x.gain(1, 0, 1, 0), REFUSED + 5);
        int[] below = {0, -1, Integer.MIN_VALUE};
        for (int d : below) {
            Check.due("d " + d, x.gain(0, 0, d, 0), REFUSED + 4);
        }
        int[] above = {100000, Integer.MAX_VALUE};
        for (int d : above) {
            Check.due("d " + d, x.gain(0, 0, d, 0), REFUSED + 6);
        }
        gain(x, "the least", 1, 0, 1);
        gain(x, "the greatest", 99999, 0, 1);
    }

    private static void gainBrokenEitherWay() {
        Check.says("-7 (either way)");
        BidsJudged x = Make.closed(50, 100);
        Check.formula(x, "1/(p-50)");
        gain(x, "broken now", 1, REFUSED + 7, REFUSED + 7);
        Check.formula(x, "1/(p-49)");
        gain(x, "broken then", 1, REFUSED + 7, REFUSED + 7);
        gain(x, "neither way", 2, -2, 1);
        Check.formula(x, "1/(p-l)");
        Check.due("by another's price", x.gain(1, 0, 50, 0), REFUSED + 7);
        Check.due("by another's price, one less", x.gain(1, 0, 49, 0), 49);
        Check.due("by another's price, one less, below", x.gain(1, 0, 49, 1), 50);
    }

    private static void gainBeyondItsBound() {
        Check.says("a fraction of which a part (without sign) is above 1000000000 (after any operation).");
        BidsJudged x = Make.closed(31623);
        Check.formula(x, "1/p");
        gain(x, "31622 * 31623", 1, 1, 999982506);
        BidsJudged y = Make.closed(31624);
        Check.formula(y, "1/p");
        gain(y, "31623 * 31624", 1, REFUSED + 7, REFUSED + 7);
        Check.due("its points are not broken", y.points(0, 0, 1), 31624);
    }

    private static void gainChangesNothing() {
        Check.says("POINTS of a BID if its PRICE were d less");
        BidsJudged x = Make.closed(50, 45);
        Check.formula(x, "l/p");
        gain(x, "ahead then", 10, 1, 10);
        Check.due("its price", x.price(0, 0), 50);
        Check.due("its points", x.points(0, 0, 1), 10);
        order(x, "order", 1, 0);
    }

    private static void turnedByEachName() {
        Check.says("TURNED: of two BIDS, i ahead of j in ORDER: the least third BID of the LOT without which j would be"
            + " ahead of i");
        BidsJudged x = Make.closed(100, 120, 50, 900);
        x.note(0, 0, 0, 60);
        x.note(0, 1, 0, 80);
        x.note(0, 2, 0, 10);
        x.note(0, 3, 0, 90);
        Check.formula(x, "(l-75)*p");
        Check.due("l: 100 is the least then", x.turned(0, 0, 1), 2);
        Check.formula(x, "(h-500)*p");
        Check.due("h: 120 is the greatest then", x.turned(0, 1, 0), 3);
        Check.formula(x, "(a-200)*p");
        Check.due("a: 90 is the mean then", x.turned(0, 1, 0), 3);
        Check.formula(x, "(b-85)*p");
        Check.due("b: 80 is the best then", x.turned(0, 1, 0), 3);
        Check.formula(x, "(k-7/2)*p");
        Check.due("k: 3 are left then", x.turned(0, 1, 0), 2);
    }

    private static void theLeastThird() {
        Check.says("the least third BID of the LOT");
        BidsJudged x = Make.closed(10, 20, 30, 40, 50);
        Check.formula(x, "(k-9/2)*p");
        Check.due("of 1, 2 and 3", x.turned(0, 4, 0), 1);
        Check.due("of 0, 3 and 4", x.turned(0, 2, 1), 0);
        Check.due("of 2, 3 and 4", x.turned(0, 1, 0), 2);
        x.out(2, 0, true);
        Check.formula(x, "(k-7/2)*p");
        Check.due("2 doesn't stand", x.turned(0, 1, 0), 3);
    }

    private static void noThird() {
        Check.says("TURNED: the third BIDDER; -9 none.");
        BidsJudged x = Make.closed(10, 20);
        Check.formula(x, "p");
        Check.due("two bids", x.turned(0, 1, 0), -9);
        BidsJudged y = Make.closed(10, 20, 30, 40, 50, 60, 70, 80);
        Check.formula(y, "p");
        Check.due("none of six", y.turned(0, 7, 0), -9);
        Check.due("it is no refusal", y.count(13) + y.count(15), 0);
    }

    private static void turnedNotBroken() {
        Check.says("without which j would be ahead of i (both not BROKEN).");
        BidsJudged x = Make.closed(20, 30, 40);
        Check.formula(x, "p/(k-2)");
        Check.due("broken without it", x.turned(0, 1, 0), -9);
        BidsJudged y = Make.closed(20, 30, 10);
        Check.formula(y, "100/(p-l)");
        Check.due("2 is broken, the others are not", y.order(0, 2), -9);
        Check.due("i is broken without it", y.turned(0, 0, 1), -9);
        BidsJudged z = Make.closed(30, 20, 10);
        Check.formula(z, "0-100/(p-l)");
        Check.due("j is broken without it", z.turned(0, 0, 1), -9);
    }

    private static void turnedWithoutABarredOne() {
        Check.says("the least third BID of the LOT without which");
        BidsJudged x = Make.closed(10, 10, 10, 10);
        x.note(0, 0, 0, 50);
        x.note(0, 1, 0, 40);
        x.note(1, 1, 0, 100);
        x.bar(1, 3, true);
        Check.due("the scorer counts again", x.turned(0, 0, 1), 3);
        x.bar(1, 2, true);
        Check.due("it is barred for another, too", x.turned(0, 0, 1), -9);
    }

    private static void turnedIsRefused() {
        Check.says("-9 none. -1 (one twice, too); -5; -7; -3 i is not ahead of j.");
        BidsJudged x = Make.closed(10, 20, 30);
        Check.formula(x, "p");
        for (int n : NOBODY) {
            Check.due("lot " + n, x.turned(n, 1, 0), -1);
            Check.due("i " + n, x.turned(0, n, 0), -1);
            Check.due("j " + n, x.turned(0, 1, n), -1);
        }
        Check.due("lot 1 of 1", x.turned(1, 1, 0), -1);
        Check.due("one twice", x.turned(0, 1, 1), -1);
        Check.due("one twice, without a bid", x.turned(0, 7, 7), -1);
        Check.due("no bid i", x.turned(0, 7, 0), -5);
        Check.due("no bid j", x.turned(0, 1, 7), -5);
        Check.due("not ahead", x.turned(0, 0, 1), -3);
        Check.due("ahead", x.turned(0, 1, 0), -9);
        Check.formula(x, "1/(p-20)");
        Check.due("i is broken", x.turned(0, 1, 0), -7);
        Check.due("j is broken", x.turned(0, 0, 1), -7);
        Check.due("neither is broken", x.turned(0, 2, 0), -9);
        x.out(0, 0, true);
        Check.due("i doesn't stand", x.turned(0, 0, 2), -5);
        Check.due("j doesn't stand", x.turned(0, 2, 0), -5);
    }
}
