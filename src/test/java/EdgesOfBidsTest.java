/** The edges that 'Terms' and promises 1 to 9 name, a test for each sentence. */
public final class EdgesOfBidsTest {
    private static final int LEAST = Integer.MIN_VALUE;
    private static final int GREATEST = Integer.MAX_VALUE;

    public static void main(String[] args) {
        calls512();
        timeGoesOn();
        timeIsRefused();
        newObject();
        bidders();
        moneys();
        rateIsRefused();
        moneyDay();
        howManyLots();
        lotsAreRefused();
        lotsThatThereAreNoMore();
        bidsAreToldAnew();
        oneAndThenZero();
        bidNumbers();
        withdrawn();
        withdrawIsRefused();
        closingIsToldOnce();
        closingIsRefused();
        late();
        openTill();
        errors();
        options();
        rates();
        oneAtLeast();
        stands();
        settings();
        priceIsRefused();
        Check.end("EdgesOfBidsTest");
    }

    private static void calls512() {
        Check.says("An object is used for at most 512 calls after it has been made; what later calls answer is free.");
        BidsJudged x = new BidsJudged();
        for (int i = 1; i <= 510; i++) {
            Check.due("call " + i, x.time(1), i);
        }
        Check.due("call 511", x.time(0), -4);
        Check.due("call 512", x.count(14), 1);
        for (int i = 0; i < 1000; i++) {
            x.time(1);
            x.bid(i, 0, 0, i, 0, 0, 0, i, 0);
            x.feed(8, i);
            x.challenge(0, 0);
            x.join(i, 1);
        }
        Check.due("later calls end as well", true);
    }

    private static void timeGoesOn() {
        Check.says("A TIME is a minute (0 .. 999999); it goes on.");
        BidsJudged x = new BidsJudged();
        Check.due("at first", x.count(0), 0);
        Check.due("time(1)", x.time(1), 1);
        Check.due("time(2)", x.time(2), 3);
        Check.due("to the last minute", x.time(999996), 999999);
        Check.due("one beyond", x.time(1), -6);
        Check.due("it stays", x.count(0), 999999);
    }

    private static void timeIsRefused() {
        Check.says("n minutes go on: TIME. -4 below 1; -6 above 999999.");
        BidsJudged x = new BidsJudged();
        Check.due("time(0)", x.time(0), -4);
        Check.due("time(-1)", x.time(-1), -4);
        Check.due("time(least)", x.time(LEAST), -4);
        Check.due("time(1000000)", x.time(1000000), -6);
        Check.due("time(greatest)", x.time(GREATEST), -6);
        Check.due("nothing went on", x.count(0), 0);
        Check.due("time(999999)", x.time(999999), 999999);
        Check.due("no wrap around", x.time(GREATEST), -6);
        Check.due("-4 at the end too", x.time(0), -4);
    }

    private static void newObject() {
        Check.says("`BidsJudged()`: TIME 0; nothing.");
        BidsJudged x = new BidsJudged();
        int[] want = {0, 1, 0, 0, 0, 1, 0, 0, 0, 0, -9, 0, 0, 0, 0, 0, 0, 0, -9};
        for (int what = 0; what < want.length; what++) {
            Check.due("count(" + what + ")", x.count(what), want[what]);
        }
        Check.due("no closing was told", x.closing(0), 1);
        for (int bidder = 0; bidder < 8; bidder++) {
            Check.due("no bid", x.price(bidder, 0), -5);
            Check.due("nobody is out", x.out(bidder, 0, false), 0);
            Check.due("no framework", x.room(bidder), -3);
            for (int scorer = 0; scorer < 6; scorer++) {
                Check.due("none is barred", x.bar(scorer, bidder, false), 0);
            }
        }
        Check.due("no challenge", x.judge(0, true), -1);
        Check.due("no call", x.decline(), -3);
    }

    private static void bidders() {
        Check.says("BIDDERS 0 .. 7.");
        BidsJudged x = new BidsJudged();
        x.lots(6);
        Check.due("no bidder -1", Make.bid(x, -1, 0, 5), -1);
        Check.due("no bidder 8", Make.bid(x, 8, 0, 5), -1);
        for (int at = 0; at < 48; at++) {
            Check.due("a first bid", Make.bid(x, at / 6, at % 6, 100 + at), 1);
        }
        for (int at = 0; at < 48; at++) {
            Check.due("each has its own", x.price(at / 6, at % 6), 100 + at);
        }
        Check.due("all of them", x.count(2), 48);
    }

    private static void moneys() {
        Check.says("MONEYS 0 .. 3: RATE (1 .. 100000 thousandths of MONEY 0; 1000 at first; MONEY 0 stays at 1000)");
        BidsJudged x = new BidsJudged();
        for (int money = 0; money <= 3; money++) {
            x.bid(money, 0, money, 2999, 0, 0, 0, 2999, 0);
            Check.due("at first, money " + money, x.price(money, 0), 2999);
        }
        Check.due("no money 4", x.bid(0, 0, 4, 1, 0, 0, 0, 1, 0), -1);
        Check.due("no money -1", x.bid(0, 0, -1, 1, 0, 0, 0, 1, 0), -1);
        for (int money = 1; money <= 3; money++) {
            Check.due("what it was at first", x.rate(money, 1), 1000);
            Check.due("by 1", x.price(money, 0), 2);
            Check.due("what it was", x.rate(money, 100000), 1);
            Check.due("by 100000", x.price(money, 0), 299900);
            Check.due("what it was then", x.rate(money, 1000), 100000);
        }
        Check.due("money 0", x.rate(0, 2000), -1);
        Check.due("money 0 stays", x.price(0, 0), 2999);
    }

    private static void rateIsRefused() {
        Check.says("RATE of a MONEY (1 .. 3): what it was. -1 (0, too); -3 BIDS are not OPEN; -4; -6.");
        BidsJudged x = new BidsJudged();
        int[] nobody = {0, -1, 4, LEAST, GREATEST};
        for (int money : nobody) {
            Check.due("money " + money, x.rate(money, 5), -1);
        }
        int[] below = {0, -1, LEAST};
        for (int v : below) {
            Check.due("rate " + v, x.rate(1, v), -4);
        }
        int[] above = {100001, GREATEST};
        for (int v : above) {
            Check.due("rate " + v, x.rate(1, v), -6);
        }
        Check.due("as it was", x.rate(1, 5), 1000);
        x.closing(0);
        Check.due("open at closing", x.rate(1, 6), 5);
        x.time(1);
        Check.due("not open", x.rate(1, 7), -3);
    }

    private static void moneyDay() {
        Check.says("RATES of the MONEY DAY are those as they are when BIDS close.");
        BidsJudged x = new BidsJudged();
        x.bid(0, 0, 2, 100, 0, 0, 0, 100, 0);
        x.rate(2, 1500);
        Check.due("while open as they are now", x.price(0, 0), 150);
        x.closing(3);
        x.time(3);
        Check.due("the last minute", x.rate(2, 2500), 1500);
        x.time(1);
        Check.due("behind it", x.rate(2, 3500), -3);
        Check.due("of the money day", x.price(0, 0), 250);
        x.time(100000);
        Check.due("it stays", x.price(0, 0), 250);
    }

    private static void howManyLots() {
        Check.says("LOTS 0 .. 5 (how many there are is told: 1 .. 6, 1 at first; while BIDS are OPEN).");
        BidsJudged x = new BidsJudged();
        Check.due("1 at first", x.count(1), 1);
        int was = 1;
        for (int n = 1; n <= 6; n++) {
            Check.due("lots(" + n + ")", x.lots(n), was);
            Check.due("the last one", Make.bid(x, 0, n - 1, 5), 1);
            Check.due("none behind it", Make.bid(x, 0, n, 5), -1);
            was = n;
        }
        Check.due("no lot -1", Make.bid(x, 0, -1, 5), -1);
        x.closing(2);
        x.time(2);
        Check.due("open at closing", x.lots(5), 6);
        x.time(1);
        Check.due("not open", x.lots(6), -3);
        Check.due("as many as there were", x.count(1), 5);
    }

    private static void lotsAreRefused() {
        Check.says("How many LOTS there are: how many there were. -3; -4; -6.");
        BidsJudged x = new BidsJudged();
        int[] below = {0, -1, LEAST};
        for (int n : below) {
            Check.due("lots(" + n + ")", x.lots(n), -4);
        }
        int[] above = {7, GREATEST};
        for (int n : above) {
            Check.due("lots(" + n + ")", x.lots(n), -6);
        }
        Check.due("as many as there were", x.lots(6), 1);
        Check.due("as many again", x.lots(6), 6);
    }

    private static void lotsThatThereAreNoMore() {
        Check.says("(BIDS for LOTS that there are no more are WITHDRAWN.)");
        BidsJudged x = new BidsJudged();
        x.lots(6);
        for (int lot = 0; lot < 6; lot++) {
            Make.bid(x, 0, lot, 10 + lot);
            Make.bid(x, 7, lot, 20 + lot);
        }
        x.lots(6);
        Check.due("as many lots, all bids", x.count(2), 12);
        x.lots(4);
        Check.due("those of lots 4 and 5 are none", x.count(2), 8);
        x.lots(6);
        Check.due("they come not again", x.count(2), 8);
        Check.due("lot 3 stays", x.price(7, 3), 23);
        Check.due("lot 4 is withdrawn", x.price(7, 4), -5);
        Check.due("lot 5 is withdrawn", x.price(0, 5), -5);
        Check.due("a first bid", Make.bid(x, 0, 5, 9), 1);
        x.lots(1);
        Check.due("lot 0 stays", x.price(0, 0), 10);
        Check.due("two are left", x.count(2), 2);
        Check.due("none of them is late", x.count(4), 0);
    }

    private static void bidsAreToldAnew() {
        Check.says("A BID of a BIDDER for a LOT: a MONEY, PRICES of ITEMS 0 .. 3 (0 .. 99999 each), a told SUM, an"
            + " OPTION price (0 .. 99999); told again: anew.");
        BidsJudged x = new BidsJudged();
        x.rate(3, 2000);
        x.set(0, 1);
        x.set(1, 100);
        Check.due("a first one", x.bid(4, 0, 3, 1, 2, 3, 4, 50, 7), 1);
        Check.due("its price", x.price(4, 0), 114);
        Check.due("told again", x.bid(4, 0, 0, 5, 6, 7, 8, 60, 9), 0);
        Check.due("money, sum and option are anew", x.price(4, 0), 69);
        x.set(0, 0);
        Check.due("items are anew", x.price(4, 0), 35);
        Check.due("one bid", x.count(2), 1);
        Check.due("not another bidder's", x.price(3, 0), -5);
    }

    private static void oneAndThenZero() {
        Check.says("A BID: 1; 0 if there was one (it is anew); -9 LATE.");
        BidsJudged x = new BidsJudged();
        Check.due("a first one", Make.bid(x, 0, 0, 5), 1);
        Check.due("another bidder's first one", Make.bid(x, 1, 0, 5), 1);
        Check.due("there was one", Make.bid(x, 0, 0, 5), 0);
        x.out(0, 0, true);
        Check.due("there was one that is out", Make.bid(x, 0, 0, 6), 0);
        x.withdraw(0, 0);
        Check.due("there was none any more", Make.bid(x, 0, 0, 7), 1);
        Make.close(x);
        Check.due("late, if there is one", Make.bid(x, 0, 0, 8), -9);
        Check.due("late, if there is none", Make.bid(x, 2, 0, 8), -9);
        Check.due("as it was", x.price(0, 0), 7);
    }

    private static void bidNumbers() {
        Check.says("-1 BIDDER, LOT, MONEY; -4; -6 (PRICES; sum 0 .. 999999).");
        BidsJudged x = new BidsJudged();
        int[] nobody = {-1, 8, LEAST, GREATEST};
        for (int n : nobody) {
            Check.due("bidder " + n, x.bid(n, 0, 0, 1, 1, 1, 1, 4, 0), -1);
            Check.due("lot " + n, x.bid(0, n, 0, 1, 1, 1, 1, 4, 0), -1);
            Check.due("money " + n, x.bid(0, 0, n, 1, 1, 1, 1, 4, 0), -1);
        }
        for (int i = 0; i < 6; i++) {
            int greatest = i == 4 ? 999999 : 99999;
            Check.due("-1 at " + i, bidWith(x, i, -1), -4);
            Check.due("the least int at " + i, bidWith(x, i, LEAST), -4);
            Check.due("one above at " + i, bidWith(x, i, greatest + 1), -6);
            Check.due("the greatest int at " + i, bidWith(x, i, GREATEST), -6);
        }
        Check.due("no bid came of it", x.count(2), 0);
        for (int i = 0; i < 6; i++) {
            Check.due("0 at " + i, bidWith(x, i, 0), i == 0 ? 1 : 0);
            Check.due("the greatest at " + i, bidWith(x, i, i == 4 ? 999999 : 99999), 0);
        }
    }

    /** A bid of 5s, but for one of its six numbers. */
    private static int bidWith(BidsJudged x, int i, int v) {
        int[] n = {5, 5, 5, 5, 5, 5};
        n[i] = v;
        return x.bid(7, 0, 3, n[0], n[1], n[2], n[3], n[4], n[5]);
    }

    private static void withdrawn() {
        Check.says("WITHDRAWN: it is none any more.");
        BidsJudged x = Make.open(10, 20);
        Check.due("withdrawn", x.withdraw(0, 0), 1);
        Check.due("no price", x.price(0, 0), -5);
        Check.due("the other is there", x.count(2), 1);
        Check.due("and in order alone", x.order(0, 1), -9);
        Check.due("told again it is a first one", Make.bid(x, 0, 0, 11), 1);
        Check.due("with its own price", x.price(0, 0), 11);
    }

    private static void withdrawIsRefused() {
        Check.says("It is WITHDRAWN: 1; -9 LATE. -1; -5.");
        BidsJudged x = Make.open(10);
        int[] nobody = {-1, 8, LEAST, GREATEST};
        for (int n : nobody) {
            Check.due("bidder " + n, x.withdraw(n, 0), -1);
            Check.due("lot " + n, x.withdraw(0, n), -1);
        }
        Check.due("lot 1 of 1", x.withdraw(0, 1), -1);
        Check.due("none there", x.withdraw(1, 0), -5);
        Check.due("it is", x.withdraw(0, 0), 1);
        Check.due("twice", x.withdraw(0, 0), -5);
    }

    private static void closingIsToldOnce() {
        Check.says("CLOSING is at a TIME (told once, now or later)");
        BidsJudged x = new BidsJudged();
        x.time(7);
        Check.due("a minute ago", x.closing(6), -4);
        Check.due("now", x.closing(7), 1);
        Check.due("once more", x.closing(8), -3);
        x.time(1);
        Check.due("the first one counts", x.count(5), 0);
        BidsJudged y = new BidsJudged();
        Check.due("later", y.closing(8), 1);
        y.time(8);
        Check.due("open at it", y.count(5), 1);
        y.time(1);
        Check.due("once more, behind it", y.closing(20), -3);
    }

    private static void closingIsRefused() {
        Check.says("CLOSING at a TIME: 1. -3 it was told; -4 ahead of now; -6.");
        BidsJudged x = new BidsJudged();
        Check.due("closing(-1)", x.closing(-1), -4);
        Check.due("closing(least)", x.closing(LEAST), -4);
        Check.due("closing(1000000)", x.closing(1000000), -6);
        Check.due("closing(greatest)", x.closing(GREATEST), -6);
        x.time(999999);
        Check.due("never told, open", x.count(5), 1);
        Check.due("a minute ago", x.closing(999998), -4);
        Check.due("beyond", x.closing(1000000), -6);
        Check.due("the last minute", x.closing(999999), 1);
        Check.due("it is open to the end", x.count(5), 1);
    }

    private static void late() {
        Check.says("a BID that is told or WITHDRAWN behind it is LATE and nothing changes (it is counted).");
        BidsJudged x = Make.open(10, 20);
        x.closing(3);
        x.time(3);
        Check.due("told in that minute", Make.bid(x, 2, 0, 30), 1);
        Check.due("withdrawn in that minute", x.withdraw(1, 0), 1);
        Check.due("none is late", x.count(4), 0);
        x.time(1);
        Check.due("told again behind it", Make.bid(x, 0, 0, 11), -9);
        Check.due("told first behind it", Make.bid(x, 1, 0, 11), -9);
        Check.due("withdrawn behind it", x.withdraw(2, 0), -9);
        Check.due("counted", x.count(4), 3);
        Check.due("its price stays", x.price(0, 0), 10);
        Check.due("there is no new one", x.price(1, 0), -5);
        Check.due("it is there still", x.price(2, 0), 30);
        Check.due("a bid of nobody is not late", Make.bid(x, 8, 0, 11), -1);
        Check.due("one below is not late", Make.bid(x, 0, 0, -1), -4);
        Check.due("one above is not late", Make.bid(x, 0, 0, 100000), -6);
        Check.due("a bid that is not there is not late", x.withdraw(1, 0), -5);
        Check.due("as many late ones", x.count(4), 3);
    }

    private static void openTill() {
        Check.says("BIDS are OPEN till TIME is behind CLOSING.");
        BidsJudged x = new BidsJudged();
        x.time(500);
        Check.due("open without a closing", x.count(5), 1);
        x.closing(501);
        Check.due("ahead of it", x.count(5), 1);
        x.time(1);
        Check.due("at it", x.count(5), 1);
        x.time(1);
        Check.due("behind it", x.count(5), 0);
    }

    private static void errors() {
        Check.says("if SUM is the sum of ITEMS: that; else by ERRORS (0 at first): 0 the sum of ITEMS, 1 SUM, 2 the"
            + " greater one");
        BidsJudged x = new BidsJudged();
        int[] sums = {100, 99, 101, 0, 999999};
        for (int bidder = 0; bidder < sums.length; bidder++) {
            x.bid(bidder, 0, 0, 10, 20, 30, 40, sums[bidder], 0);
            Check.due("0 at first, of " + sums[bidder], x.price(bidder, 0), 100);
        }
        x.set(0, 1);
        int[] bySum = {100, 99, 101, 1, 999999};
        for (int bidder = 0; bidder < sums.length; bidder++) {
            Check.due("by SUM, of " + sums[bidder], x.price(bidder, 0), bySum[bidder]);
        }
        x.set(0, 2);
        int[] greater = {100, 100, 101, 100, 999999};
        for (int bidder = 0; bidder < sums.length; bidder++) {
            Check.due("by the greater, of " + sums[bidder], x.price(bidder, 0), greater[bidder]);
        }
    }

    private static void options() {
        Check.says("and OPTION times OPTIONS (0 .. 100 hundredths; 0 at first) by 100, cut;");
        BidsJudged x = new BidsJudged();
        x.bid(0, 0, 0, 100, 0, 0, 0, 100, 199);
        x.bid(1, 0, 0, 100, 0, 0, 0, 100, 99999);
        x.bid(2, 0, 0, 100, 0, 0, 0, 100, 0);
        Check.due("0 at first", x.price(0, 0), 100);
        int[] parts = {1, 50, 99, 100};
        int[] want = {101, 199, 297, 299};
        for (int i = 0; i < parts.length; i++) {
            x.set(1, parts[i]);
            Check.due("199 by " + parts[i], x.price(0, 0), want[i]);
            Check.due("no option by " + parts[i], x.price(2, 0), 100);
        }
        Check.due("the greatest", x.price(1, 0), 100099);
        x.set(1, 1);
        x.bid(2, 0, 0, 100, 0, 0, 0, 100, 99);
        Check.due("99 hundredths are cut", x.price(2, 0), 100);
        x.bid(2, 0, 0, 100, 0, 0, 0, 100, 100);
        Check.due("100 hundredths are 1", x.price(2, 0), 101);
    }

    private static void rates() {
        Check.says("times RATE (of the MONEY DAY; while OPEN as they are now) by 1000, cut;");
        BidsJudged x = new BidsJudged();
        x.bid(0, 0, 1, 3, 0, 0, 0, 3, 1);
        x.rate(1, 1500);
        Check.due("4 and a half is cut", x.price(0, 0), 4);
        x.rate(1, 1333);
        Check.due("3999 thousandths are cut", x.price(0, 0), 3);
        x.rate(1, 2000);
        x.set(1, 50);
        Check.due("the option is cut first", x.price(0, 0), 6);
        x.set(1, 100);
        Check.due("and then times the rate", x.price(0, 0), 8);
        x.rate(1, 100000);
        x.set(0, 1);
        x.bid(0, 0, 1, 0, 0, 0, 0, 999999, 99999);
        Check.due("the greatest price of all", x.price(0, 0), 109999800);
    }

    private static void oneAtLeast() {
        Check.says("by 1000, cut; 1 at least.");
        BidsJudged x = Make.open(0);
        Check.due("of nothing", x.price(0, 0), 1);
        x.rate(1, 1);
        int[] sums = {0, 1, 999, 1000, 1999, 2000};
        int[] want = {1, 1, 1, 1, 1, 2};
        for (int i = 0; i < sums.length; i++) {
            x.bid(1, 0, 1, sums[i], 0, 0, 0, sums[i], 0);
            Check.due("of " + sums[i] + " by 1", x.price(1, 0), want[i]);
        }
    }

    private static void stands() {
        Check.says("A BID STANDS: it is there, and not OUT.");
        BidsJudged x = Make.open(10, 20);
        Check.due("both", x.count(3), 2);
        x.out(0, 0, true);
        Check.due("there, but out", x.count(3), 1);
        Check.due("they are there", x.count(2), 2);
        x.out(5, 0, false);
        Check.due("not out, but not there", x.count(3), 1);
        x.withdraw(1, 0);
        Check.due("withdrawn", x.count(3), 0);
        x.out(0, 0, false);
        Check.due("out no more", x.count(3), 1);
        Check.due("price of one that is out", priceOfOut(x), 10);
    }

    private static int priceOfOut(BidsJudged x) {
        x.out(0, 0, true);
        return x.price(0, 0);
    }

    private static void settings() {
        Check.says("ERRORS (what 0: 0 .. 2), OPTIONS (1), LIMIT (2), PART (3) becomes v: what it was. -2; -4; -6.");
        BidsJudged x = new BidsJudged();
        int[] other = {-1, 4, LEAST, GREATEST};
        for (int what : other) {
            Check.due("what " + what, x.set(what, 1), -2);
        }
        int[] first = {0, 0, 0, 50};
        for (int what = 0; what < 4; what++) {
            int greatest = what == 0 ? 2 : 100;
            Check.due("-1 of " + what, x.set(what, -1), -4);
            Check.due("the least int of " + what, x.set(what, LEAST), -4);
            Check.due("one above of " + what, x.set(what, greatest + 1), -6);
            Check.due("the greatest int of " + what, x.set(what, GREATEST), -6);
            Check.due("at first, of " + what, x.set(what, greatest), first[what]);
            Check.due("the greatest of " + what, x.set(what, 0), greatest);
            Check.due("the least of " + what, x.set(what, 1), 0);
        }
        Make.close(x);
        Check.due("behind closing, too", x.set(3, 2), 1);
    }

    private static void priceIsRefused() {
        Check.says("PRICE of a BID. -1; -5.");
        BidsJudged x = Make.open(10);
        x.bid(7, 0, 0, 30, 0, 0, 0, 30, 0);
        int[] nobody = {-1, 8, LEAST, GREATEST};
        for (int n : nobody) {
            Check.due("bidder " + n, x.price(n, 0), -1);
            Check.due("lot " + n, x.price(0, n), -1);
        }
        Check.due("lot 1 of 1", x.price(0, 1), -1);
        Check.due("the first bidder", x.price(0, 0), 10);
        Check.due("the last bidder", x.price(7, 0), 30);
        Check.due("no bid", x.price(6, 0), -5);
    }
}
