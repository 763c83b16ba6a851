/** Promises 33 to 40: likeness, chance, rings, the framework, counts. */
public final class RingsAndFrameworkTest {
    private static final long REFUSED = 4000000000000000000L;

    public static void main(String[] args) {
        likeness();
        chance();
        ring();
        join();
        call();
        decline();
        declineEnds();
        room();
        count();
        Check.end("RingsAndFrameworkTest");
    }

    private static void bid(BidsJudged x, int bidder, int a, int b, int c, int d) {
        x.bid(bidder, 0, 0, a, b, c, d, 0, 0);
    }

    private static void likeness() {
        BidsJudged x = new BidsJudged();
        bid(x, 0, 10, 20, 30, 40);
        bid(x, 1, 11, 21, 30, 41);
        bid(x, 2, 99999, 99999, 99999, 99999);
        bid(x, 3, 99999, 0, 0, 0);
        bid(x, 4, 0, 0, 0, 0);
        Check.due("33: lot 1", x.likeness(1, 0, 1), REFUSED + 1);
        Check.due("33: bidder 8", x.likeness(0, 0, 8), REFUSED + 1);
        Check.due("33: bidder -1", x.likeness(0, -1, 0), REFUSED + 1);
        Check.due("33: one twice", x.likeness(0, 6, 6), REFUSED + 1);
        Check.due("33: none", x.likeness(0, 0, 5), REFUSED + 5);
        Check.due("33: none, a", x.likeness(0, 5, 0), REFUSED + 5);
        Check.due("33: likeness", x.likeness(0, 0, 1), 220);
        Check.due("33: the other way", x.likeness(0, 1, 0), 220);
        Check.due("33: great ones", x.likeness(0, 2, 3), 6L * 99999 * 99999);
        Check.due("33: nothing is like all", x.likeness(0, 4, 1), 0);
        x.out(0, 0, true);
        Check.due("33: of one that is out", x.likeness(0, 0, 1), 220);
    }

    private static void chance() {
        BidsJudged x = new BidsJudged();
        bid(x, 0, 10, 20, 30, 40);
        bid(x, 1, 11, 21, 30, 41);
        bid(x, 2, 40, 30, 20, 10);
        bid(x, 3, 25, 25, 25, 25);
        bid(x, 4, 20, 10, 30, 40);
        bid(x, 6, 10, 10, 30, 40);
        Check.due("34: lot 1", x.chance(1, 0, 1), -1);
        Check.due("34: bidder 8", x.chance(0, 8, 1), -1);
        Check.due("34: one twice", x.chance(0, 0, 0), -1);
        Check.due("34: none", x.chance(0, 0, 5), -5);
        Check.due("34: by no chance", x.chance(0, 0, 1), 1);
        Check.due("34: the least like order", x.chance(0, 0, 2), 24);
        Check.due("34: all are the same", x.chance(0, 0, 3), 24);
        Check.due("34: two the same", x.chance(0, 0, 6), 2);
        Check.due("34: a change of neighbours", x.chance(0, 0, 4), 4);
        x.out(0, 0, true);
        Check.due("34: of one that is out", x.chance(0, 0, 1), 1);
    }

    private static void ring() {
        BidsJudged x = new BidsJudged();
        Check.due("35: none", x.ring(0, 0), -5);
        Check.due("35: lot 1", x.ring(1, 0), -1);
        Check.due("35: bidder 8", x.ring(0, 8), -1);
        bid(x, 7, 1000, 2000, 3000, 4000);
        Check.due("35: alone", x.ring(0, 7), 7);
        bid(x, 2, 1070, 2000, 3000, 4000);
        Check.due("35: likeness", x.likeness(0, 2, 7), 1260000);
        Check.due("35: joined", x.ring(0, 7), 2);
        Check.due("35: the least itself", x.ring(0, 2), 2);
        bid(x, 5, 940, 2000, 3000, 4000);
        Check.due("35: too unlike", x.likeness(0, 5, 2) * 50 > 9940L * 10070);
        Check.due("35: by way of another", x.ring(0, 5), 2);
        x.withdraw(7, 0);
        Check.due("35: no way without it", x.ring(0, 5), 5);
        bid(x, 0, 10, 10, 10, 10);
        bid(x, 1, 10, 10, 10, 11);
        Check.due("35: like by chance", x.ring(0, 1), 1);
        bid(x, 1, 20, 20, 20, 20);
        Check.due("35: likeness 0", x.ring(0, 1), 0);
        x.out(0, 0, true);
        Check.due("35: with one that is out", x.ring(0, 1), 0);
        BidsJudged y = new BidsJudged();
        bid(y, 0, 1000, 2000, 3000, 4000);
        bid(y, 1, 1000, 2000, 3100, 3900);
        Check.due("35: just the bound", y.likeness(0, 0, 1) * 50, 10000L * 10000);
        Check.due("35: joined at the bound", y.ring(0, 1), 0);
        bid(y, 1, 1000, 2000, 3101, 3899);
        Check.due("35: not beyond it", y.ring(0, 1), 1);
    }

    private static void join() {
        BidsJudged x = new BidsJudged();
        Check.due("36: bidder 8", x.join(8, 0), -1);
        Check.due("36: below", x.join(4, 0), -4);
        Check.due("36: above", x.join(4, 1000), -6);
        Check.due("36: least", x.join(4, 1), 1);
        Check.due("36: twice", x.join(4, 0), -3);
        Check.due("36: greatest", x.join(0, 999), 2);
        for (int bidder = 0; bidder < 8; bidder++) {
            x.join(bidder, 5);
        }
        Check.due("36: all are in", x.join(7, 5), -3);
        Check.due("36: room of the last", x.room(7), 5);
    }

    private static void call() {
        BidsJudged x = new BidsJudged();
        Check.due("37: 0", x.call(0), -4);
        Check.due("37: 1000", x.call(1000), -6);
        Check.due("37: none in the row", x.call(1), -9);
        x.join(3, 10);
        x.join(1, 20);
        x.join(5, 8);
        Check.due("37: first", x.call(6), 3);
        Check.due("37: second", x.call(6), 1);
        Check.due("37: third", x.call(8), 5);
        Check.due("37: round, one passed over", x.call(5), 1);
        Check.due("37: to none", x.call(10), -9);
        Check.due("37: behind the latest to whom one went", x.call(4), 3);
        Check.due("37: who has just so much", x.call(9), 1);
        Check.due("37: none has any", x.call(1), -9);
        BidsJudged y = new BidsJudged();
        y.join(6, 4);
        Check.due("37: alone", y.call(2), 6);
        Check.due("37: alone again", y.call(2), 6);
        Check.due("37: alone no more", y.call(1), -9);
        y.join(7, 999);
        Check.due("37: the greatest", y.call(999), 7);
    }

    private static void decline() {
        BidsJudged x = new BidsJudged();
        Check.due("38: none", x.decline(), -3);
        x.call(5);
        Check.due("38: it went to none", x.decline(), -3);
        x.join(3, 10);
        x.join(1, 20);
        x.join(5, 4);
        x.join(0, 9);
        Check.due("38: a call", x.call(7), 3);
        x.call(1000);
        Check.due("38: the next one", x.decline(), 1);
        Check.due("38: room again", x.room(3), 10);
        Check.due("38: less then", x.room(1), 13);
        Check.due("38: one passed over", x.decline(), 0);
        Check.due("38: not to the first", x.decline(), -9);
        Check.due("38: room of the last", x.room(0), 9);
        Check.due("38: none now", x.decline(), -3);
        Check.due("38: goes on behind the latest", x.call(1), 3);
        Check.due("38: behind it", x.call(1), 1);
        Check.due("38: a call, round", x.call(4), 5);
        Check.due("38: on", x.decline(), 0);
        Check.due("38: on, round", x.decline(), 3);
        Check.due("38: on still", x.decline(), 1);
        Check.due("38: not beyond the first", x.decline(), -9);
        Check.due("38: all room again", x.room(1) + x.room(3) + x.room(5) + x.room(0), 19 + 9 + 4 + 9);
    }

    private static void declineEnds() {
        BidsJudged x = new BidsJudged();
        x.join(2, 10);
        x.join(4, 10);
        x.call(3);
        Check.due("38: second call", x.call(3), 4);
        x.join(6, 10);
        Check.due("38: who came in behind", x.decline(), 6);
        Check.due("38: then round", x.decline(), 2);
        Check.due("38: and none", x.decline(), -9);
        BidsJudged y = new BidsJudged();
        y.join(2, 10);
        y.call(3);
        Check.due("38: alone", y.decline(), -9);
        Check.due("38: alone, room", y.room(2), 10);
    }

    private static void room() {
        BidsJudged x = new BidsJudged();
        Check.due("39: bidder 8", x.room(8), -1);
        Check.due("39: bidder -1", x.room(-1), -1);
        Check.due("39: in none", x.room(0), -3);
        x.join(0, 10);
        Check.due("39: all", x.room(0), 10);
        x.call(10);
        Check.due("39: none left", x.room(0), 0);
    }

    private static void count() {
        BidsJudged x = new BidsJudged();
        int[] others = {-1, 10, 18, Integer.MIN_VALUE, Integer.MAX_VALUE};
        for (int what : others) {
            Check.due("40: what " + what, x.count(what), -9);
        }
        x.price(8, 0);
        x.price(8, 0);
        x.price(8, 0);
        x.points(8, 0, 0);
        x.set(9, 0);
        x.points(0, 0, 2);
        x.decline();
        x.time(0);
        x.feed(0, 0);
        x.price(0, 0);
        x.gain(0, 0, 0, 0);
        x.likeness(0, 0, 1);
        x.lots(7);
        x.bid(0, 0, 0, 1, 0, 0, 0, 1, 0);
        Check.formula(x, "1/0");
        x.points(0, 0, 0);
        int[] want = {4, 2, 1, 2, 3, 1, 1};
        for (int i = 0; i < 7; i++) {
            Check.due("40: count(" + (11 + i) + ")", x.count(11 + i), want[i]);
        }
        x.closing(0);
        x.time(1);
        x.bid(0, 0, 0, 1, 0, 0, 0, 1, 0);
        x.order(0, 9);
        x.formula();
        x.call(5);
        for (int i = 0; i < 7; i++) {
            Check.due("40: no refusal " + (11 + i), x.count(11 + i), want[i]);
        }
    }
}
