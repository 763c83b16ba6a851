/** Objects in states with which many tests begin. */
final class Make {
    private Make() {
    }

    /** A bid in money 0 whose price is that of its first item. */
    static int bid(BidsJudged x, int bidder, int lot, int price) {
        return x.bid(bidder, lot, 0, price, 0, 0, 0, price, 0);
    }

    static void items(BidsJudged x, int bidder, int a, int b, int c, int d) {
        x.bid(bidder, 0, 0, a, b, c, d, a + b + c + d, 0);
    }

    /** Bids of bidders 0, 1, .. for lot 0, while bids are open. */
    static BidsJudged open(int... prices) {
        BidsJudged x = new BidsJudged();
        for (int bidder = 0; bidder < prices.length; bidder++) {
            bid(x, bidder, 0, prices[bidder]);
        }
        return x;
    }

    static void close(BidsJudged x) {
        x.closing(x.count(0));
        x.time(1);
    }

    /** Bids of bidders 0, 1, .. for lot 0, at time 1, a minute behind closing. */
    static BidsJudged closed(int... prices) {
        BidsJudged x = open(prices);
        close(x);
        return x;
    }

    /** The same, awarded at once at time 1. */
    static BidsJudged awarded(int... prices) {
        BidsJudged x = closed(prices);
        x.award(0);
        return x;
    }

    /** The same, signed in the first minute in which it can be. */
    static BidsJudged signed(int... prices) {
        BidsJudged x = awarded(prices);
        x.time(14401);
        x.sign();
        return x;
    }
}
