/** Promises 1 to 12: time, moneys, lots, bids, prices, notes. */
public final class BidsTest {
    private static final int LEAST = Integer.MIN_VALUE;
    private static final int GREATEST = Integer.MAX_VALUE;

    public static void main(String[] args) {
        newObject();
        time();
        rate();
        lots();
        closing();
        bid();
        bidIsAnew();
        withdraw();
        set();
        price();
        note();
        bar();
        quality();
        Check.end("BidsTest");
    }

    private static void newObject() {
        BidsJudged x = new BidsJudged();
        for (int what = 0; what <= 17; what++) {
            int want = what == 1 || what == 5 ? 1 : what == 10 ? -9 : 0;
            Check.due("1: count(" + what + ")", x.count(what), want);
        }
        Check.due("1: order", x.order(0, 0), -9);
        Check.due("1: decline", x.decline(), -3);
    }

    private static void time() {
        BidsJudged x = new BidsJudged();
        Check.due("2: time(0)", x.time(0), -4);
        Check.due("2: time(least)", x.time(LEAST), -4);
        Check.due("2: time(1)", x.time(1), 1);
        Check.due("2: time(999999)", x.time(999999), -6);
        Check.due("2: time(greatest)", x.time(GREATEST), -6);
        Check.due("2: time(999998)", x.time(999998), 999999);
        Check.due("2: time(1) at the end", x.time(1), -6);
        Check.due("2: count(0)", x.count(0), 999999);
        Check.due("2: count(14)", x.count(14), 2);
        Check.due("2: count(16)", x.count(16), 3);
    }

    private static void rate() {
        BidsJudged x = new BidsJudged();
        Check.due("3: money 0", x.rate(0, 5), -1);
        Check.due("3: money -1", x.rate(-1, 5), -1);
        Check.due("3: money 4", x.rate(4, 5), -1);
        Check.due("3: 0", x.rate(3, 0), -4);
        Check.due("3: 100001", x.rate(3, 100001), -6);
        Check.due("3: 1", x.rate(3, 1), 1000);
        Check.due("3: 100000", x.rate(3, 100000), 1);
        Check.due("3: 7", x.rate(3, 7), 100000);
        Check.due("3: other money", x.rate(2, 7), 1000);
        x.closing(0);
        Check.due("3: open still", x.rate(1, 8), 1000);
        x.time(1);
        Check.due("3: money before state", x.rate(0, 8), -1);
        Check.due("3: state before number", x.rate(1, 0), -3);
        Check.due("3: closed", x.rate(1, 9), -3);
    }

    private static void lots() {
        BidsJudged x = new BidsJudged();
        Check.due("4: 0", x.lots(0), -4);
        Check.due("4: 7", x.lots(7), -6);
        Check.due("4: 6", x.lots(6), 1);
        x.bid(2, 5, 0, 1, 2, 3, 4, 10, 0);
        x.bid(2, 2, 0, 1, 2, 3, 4, 10, 0);
        x.bid(2, 1, 0, 1, 2, 3, 4, 10, 0);
        x.out(2, 5, true);
        Check.due("4: 2", x.lots(2), 6);
        Check.due("4: bids withdrawn", x.count(2), 1);
        Check.due("4: no such lot", x.price(2, 5), -1);
        Check.due("4: 6 again", x.lots(6), 2);
        Check.due("4: withdrawn for good", x.price(2, 5), -5);
        Check.due("4: kept", x.price(2, 1), 10);
        Check.due("4: told of the bidder, it stays", x.out(2, 5, true), 0);
        Check.due("4: 1", x.lots(1), 6);
        x.lots(6);
        x.closing(0);
        x.time(1);
        Check.due("4: closed", x.lots(0), -3);
        Check.due("4: count(1)", x.count(1), 6);
    }

    private static void closing() {
        BidsJudged x = new BidsJudged();
        x.time(5);
        Check.due("5: ahead", x.closing(4), -4);
        Check.due("5: beyond", x.closing(1000000), -6);
        Check.due("5: now", x.closing(5), 1);
        Check.due("5: twice", x.closing(4), -3);
        Check.due("5: open at closing", x.count(5), 1);
        x.time(1);
        Check.due("5: closed behind it", x.count(5), 0);
        BidsJudged y = new BidsJudged();
        Check.due("5: last minute", y.closing(999999), 1);
        y.time(999999);
        Check.due("5: open to the end", y.count(5), 1);
        BidsJudged z = new BidsJudged();
        z.time(999999);
        Check.due("5: never told", z.count(5), 1);
    }

    private static void bid() {
        BidsJudged x = new BidsJudged();
        Check.due("6: bidder -1", x.bid(-1, 0, 0, 1, 1, 1, 1, 4, 0), -1);
        Check.due("6: bidder 8", x.bid(8, 0, 0, 1, 1, 1, 1, 4, 0), -1);
        Check.due("6: lot -1", x.bid(0, -1, 0, 1, 1, 1, 1, 4, 0), -1);
        Check.due("6: lot 1 of 1", x.bid(0, 1, 0, 1, 1, 1, 1, 4, 0), -1);
        Check.due("6: money -1", x.bid(0, 0, -1, 1, 1, 1, 1, 4, 0), -1);
        Check.due("6: money 4", x.bid(0, 0, 4, -1, 1, 1, 1, 4, 0), -1);
        for (int i = 0; i < 6; i++) {
            int[] v = {1, 1, 1, 1, 4, 0};
            v[i] = -1;
            Check.due("6: below " + i, x.bid(0, 0, 0, v[0], v[1], v[2], v[3], v[4], v[5]), -4);
            v[i] = i == 4 ? 1000000 : 100000;
            Check.due("6: above " + i, x.bid(0, 0, 0, v[0], v[1], v[2], v[3], v[4], v[5]), -6);
            v[(i + 1) % 6] = -1;
            Check.due("6: below first " + i, x.bid(0, 0, 0, v[0], v[1], v[2], v[3], v[4], v[5]), -4);
        }
        Check.due("6: nothing yet", x.count(2), 0);
        Check.due("6: greatest", x.bid(0, 0, 3, 99999, 99999, 99999, 99999, 999999, 99999), 1);
        Check.due("6: least", x.bid(7, 0, 0, 0, 0, 0, 0, 0, 0), 1);
        Check.due("6: anew", x.bid(7, 0, 0, 5, 0, 0, 0, 5, 0), 0);
        Check.due("6: its new price", x.price(7, 0), 5);
        x.closing(0);
        x.time(1);
        Check.due("6: refused before late", x.bid(8, 0, 0, 1, 1, 1, 1, 4, 0), -1);
        Check.due("6: late", x.bid(7, 0, 0, 6, 0, 0, 0, 6, 0), -9);
        Check.due("6: late, a new one", x.bid(6, 0, 0, 6, 0, 0, 0, 6, 0), -9);
        Check.due("6: late ones counted", x.count(4), 2);
        Check.due("6: nothing changed", x.price(7, 0), 5);
        Check.due("6: two are there", x.count(2), 2);
    }

    private static void bidIsAnew() {
        BidsJudged x = new BidsJudged();
        x.bid(0, 0, 0, 100, 0, 0, 0, 100, 0);
        x.bid(1, 0, 0, 10, 0, 0, 0, 10, 0);
        x.set(2, 100);
        x.ask(1, 0, 3);
        x.time(4);
        Check.due("6: out by no answer", x.count(3), 1);
        Check.due("6: told anew", x.bid(1, 0, 0, 10, 0, 0, 0, 10, 0), 0);
        Check.due("6: it was not asked", x.count(3), 2);
        x.out(1, 0, true);
        Check.due("6: told anew again", x.bid(1, 0, 0, 10, 0, 0, 0, 10, 0), 0);
        Check.due("6: out as told", x.count(3), 1);
    }

    private static void withdraw() {
        BidsJudged x = new BidsJudged();
        x.bid(3, 0, 0, 1, 0, 0, 0, 1, 0);
        Check.due("7: bidder 8", x.withdraw(8, 0), -1);
        Check.due("7: lot 1", x.withdraw(3, 1), -1);
        Check.due("7: none", x.withdraw(2, 0), -5);
        Check.due("7: it is", x.withdraw(3, 0), 1);
        Check.due("7: gone", x.withdraw(3, 0), -5);
        Check.due("7: no price", x.price(3, 0), -5);
        Check.due("7: a new one", x.bid(3, 0, 0, 1, 0, 0, 0, 1, 0), 1);
        x.out(3, 0, true);
        Check.due("7: out ones too", x.withdraw(3, 0), 1);
        x.bid(3, 0, 0, 1, 0, 0, 0, 1, 0);
        x.closing(0);
        x.time(1);
        Check.due("7: late", x.withdraw(3, 0), -9);
        Check.due("7: none before late", x.withdraw(4, 0), -5);
        Check.due("7: counted", x.count(4), 1);
        Check.due("7: still there", x.count(2), 1);
    }

    private static void set() {
        BidsJudged x = new BidsJudged();
        Check.due("8: what -1", x.set(-1, 1), -2);
        Check.due("8: what 4", x.set(4, -1), -2);
        int[] first = {0, 0, 0, 50};
        for (int what = 0; what < 4; what++) {
            int greatest = what == 0 ? 2 : 100;
            Check.due("8: below " + what, x.set(what, -1), -4);
            Check.due("8: above " + what, x.set(what, greatest + 1), -6);
            Check.due("8: first " + what, x.set(what, greatest), first[what]);
            Check.due("8: then " + what, x.set(what, 0), greatest);
        }
    }

    private static void price() {
        BidsJudged x = new BidsJudged();
        x.bid(0, 0, 1, 10, 20, 30, 41, 90, 33);
        x.bid(1, 0, 1, 10, 20, 30, 40, 190, 0);
        x.bid(2, 0, 2, 1, 0, 0, 0, 1, 0);
        x.bid(3, 0, 3, 99999, 99999, 99999, 99999, 999999, 99999);
        Check.due("9: bidder 8", x.price(8, 0), -1);
        Check.due("9: lot 1", x.price(0, 1), -1);
        Check.due("9: none", x.price(4, 0), -5);
        Check.due("9: items count", x.price(0, 0), 101);
        x.set(0, 1);
        Check.due("9: sum counts", x.price(0, 0), 90);
        x.set(0, 2);
        Check.due("9: the greater, items", x.price(0, 0), 101);
        Check.due("9: the greater, sum", x.price(1, 0), 190);
        x.set(1, 50);
        Check.due("9: option is cut", x.price(0, 0), 117);
        x.rate(1, 1500);
        Check.due("9: rate is cut", x.price(0, 0), 175);
        x.rate(2, 999);
        Check.due("9: 1 at least", x.price(2, 0), 1);
        x.set(1, 100);
        x.rate(3, 100000);
        Check.due("9: the greatest", x.price(3, 0), 109999800);
        x.closing(0);
        x.time(1);
        x.rate(1, 2000);
        Check.due("9: rates of the money day", x.price(1, 0), 285);
        x.out(1, 0, true);
        Check.due("9: of one that is out", x.price(1, 0), 285);
    }

    private static void note() {
        BidsJudged x = new BidsJudged();
        x.bid(0, 0, 0, 1, 0, 0, 0, 1, 0);
        x.bid(1, 0, 0, 1, 0, 0, 0, 1, 0);
        Check.due("10: missing before open", x.note(0, 2, 0, 1), -5);
        Check.due("10: open before number", x.note(0, 0, 0, 101), -3);
        x.closing(0);
        x.time(1);
        Check.due("10: scorer -1", x.note(-1, 0, 0, 1), -1);
        Check.due("10: scorer 6", x.note(6, 0, 0, 1), -1);
        Check.due("10: bidder 8", x.note(0, 8, 0, 1), -1);
        Check.due("10: lot 1", x.note(0, 0, 1, 1), -1);
        Check.due("10: below", x.note(0, 0, 0, -1), -4);
        Check.due("10: above", x.note(0, 0, 0, 101), -6);
        Check.due("10: none before", x.note(0, 0, 0, 0), -9);
        Check.due("10: what it was", x.note(0, 0, 0, 100), 0);
        Check.due("10: what it was then", x.note(0, 0, 0, 100), 100);
        x.out(1, 0, true);
        Check.due("10: doesn't stand", x.note(0, 1, 0, 1), -5);
    }

    private static void bar() {
        BidsJudged x = new BidsJudged();
        Check.due("11: scorer 6", x.bar(6, 0, true), -1);
        Check.due("11: bidder -1", x.bar(0, -1, true), -1);
        Check.due("11: not barred", x.bar(5, 7, false), 0);
        Check.due("11: barred", x.bar(5, 7, true), 1);
        Check.due("11: again", x.bar(5, 7, true), 0);
        Check.due("11: no more", x.bar(5, 7, false), 1);
        x.lots(2);
        x.bid(0, 0, 0, 1, 0, 0, 0, 1, 0);
        x.bid(0, 1, 0, 1, 0, 0, 0, 1, 0);
        x.bid(1, 1, 0, 1, 0, 0, 0, 1, 0);
        x.closing(0);
        x.time(1);
        x.note(0, 0, 0, 10);
        x.note(0, 0, 1, 10);
        x.bar(0, 1, true);
        Check.due("11: a lot where it bids not", x.quality(0, 0, 0), 10);
        Check.due("11: a lot where it bids", x.quality(0, 1, 0), 0);
        x.bar(0, 1, false);
        Check.due("11: the note was kept", x.quality(0, 1, 0), 10);
    }

    private static void quality() {
        BidsJudged x = Make.closed(5, 6);
        Check.due("12: bidder 8", x.quality(8, 0, 2), -1);
        Check.due("12: lot 1", x.quality(0, 1, 0), -1);
        Check.due("12: part 2", x.quality(3, 0, 2), -2);
        Check.due("12: part -1", x.quality(0, 0, -1), -2);
        Check.due("12: none", x.quality(3, 0, 0), -5);
        Check.due("12: no notes", x.quality(0, 0, 0), 0);
        Check.due("12: no notes, below", x.quality(0, 0, 1), 1);
        int[] notes = {40, 41, 90, 0, 0, 97};
        int[] above = {40, 81, 57, 81, 27, 171};
        int[] below = {1, 2, 1, 2, 1, 4};
        for (int i = 0; i < 6; i++) {
            x.note(i, 0, 0, notes[i]);
            Check.due("12: above of " + (i + 1), x.quality(0, 0, 0), above[i]);
            Check.due("12: below of " + (i + 1), x.quality(0, 0, 1), below[i]);
        }
        for (int i = 0; i < 4; i++) {
            x.note(i, 1, 0, 0);
        }
        Check.due("12: four of 0", x.quality(1, 0, 0), 0);
        for (int i = 0; i < 5; i++) {
            x.note(i, 1, 0, 100);
        }
        Check.due("12: five of 100", x.quality(1, 0, 0), 100);
        x.bar(5, 0, true);
        x.bar(4, 1, true);
        x.bar(3, 1, true);
        Check.due("12: three that count", x.quality(0, 0, 0), 57);
        x.out(0, 0, true);
        Check.due("12: of one that is out", x.quality(0, 0, 0), 131);
    }
}
