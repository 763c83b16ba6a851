/** The edges that parts VI and VII name: likeness, chance, rings, the framework; promises 33 to 39. */
public final class EdgesOfRowsTest {
    private static final int LEAST = Integer.MIN_VALUE;
    private static final int GREATEST = Integer.MAX_VALUE;
    private static final int[] NOBODY = {-1, 8, LEAST, GREATEST};
    private static final long REFUSED = 4000000000000000000L;

    public static void main(String[] args) {
        amounts();
        likenessOfNothing();
        likenessIsRefused();
        chanceOfOrders();
        chanceIsRefused();
        ringOfLikenessZero();
        ringBeyondChance();
        ringOfManyOrders();
        ringByWayOfOthers();
        ringOfThoseThatAreThere();
        ringIsRefused();
        eachOnce();
        joinIsRefused();
        callGoesRound();
        justSoMuchRoom();
        callToNone();
        callIsRefused();
        roomAgain();
        notToTheFirst();
        declineBehindNewOnes();
        allOthersHaveNoRoom();
        declineIsRefused();
        roomIsRefused();
        Check.end("EdgesOfRowsTest");
    }

    private static void amounts() {
        Check.says("the sum over ITEMS of the amounts of (the one's ITEM times the other's sum of ITEMS, less the"
            + " other's ITEM times the one's sum).");
        BidsJudged x = new BidsJudged();
        Make.items(x, 0, 1, 2, 3, 4);
        Make.items(x, 1, 4, 3, 2, 1);
        Make.items(x, 2, 10, 20, 30, 40);
        Make.items(x, 3, 99999, 0, 0, 0);
        Make.items(x, 4, 0, 99999, 0, 0);
        Make.items(x, 5, 99999, 99999, 99999, 99999);
        Check.due("30 + 10 + 10 + 30", x.likeness(0, 0, 1), 80);
        Check.due("the other way", x.likeness(0, 1, 0), 80);
        Check.due("ten times as much", x.likeness(0, 0, 2), 0);
        Check.due("nothing in common", x.likeness(0, 3, 4), 2L * 99999 * 99999);
        Check.due("the greatest", x.likeness(0, 3, 5), 6L * 99999 * 99999);
        x.bid(1, 0, 0, 4, 3, 2, 1, 999, 50);
        Check.due("a told sum and an option are nothing to it", x.likeness(0, 0, 1), 80);
    }

    private static void likenessOfNothing() {
        Check.says("LIKENESS of two BIDS of a LOT (both are there):");
        BidsJudged x = new BidsJudged();
        Make.items(x, 0, 0, 0, 0, 0);
        Make.items(x, 1, 0, 0, 0, 0);
        Make.items(x, 2, 5, 6, 7, 8);
        Check.due("two of nothing", x.likeness(0, 0, 1), 0);
        Check.due("nothing and something", x.likeness(0, 0, 2), 0);
        Check.due("their chance", x.chance(0, 0, 2), 24);
        x.out(2, 0, true);
        Check.due("it is there, but out", x.likeness(0, 0, 2), 0);
        x.withdraw(2, 0);
        Check.due("it is not there", x.likeness(0, 0, 2), REFUSED + 5);
    }

    private static void likenessIsRefused() {
        Check.says("LIKENESS of two BIDS of a LOT. Refused as told: -1 (one twice, too); -5.");
        BidsJudged x = Make.open(10, 20);
        for (int n : NOBODY) {
            Check.due("lot " + n, x.likeness(n, 0, 1), REFUSED + 1);
            Check.due("a " + n, x.likeness(0, n, 1), REFUSED + 1);
            Check.due("b " + n, x.likeness(0, 0, n), REFUSED + 1);
        }
        Check.due("lot 1 of 1", x.likeness(1, 0, 1), REFUSED + 1);
        Check.due("one twice", x.likeness(0, 1, 1), REFUSED + 1);
        Check.due("one twice, without a bid", x.likeness(0, 7, 7), REFUSED + 1);
        Check.due("no bid a", x.likeness(0, 7, 1), REFUSED + 5);
        Check.due("no bid b", x.likeness(0, 1, 7), REFUSED + 5);
        Check.due("both are there", x.likeness(0, 1, 0), 0);
    }

    private static void chanceOfOrders() {
        Check.says("CHANCE: of the 24 orders of the other's ITEMS how many have no greater LIKENESS.");
        BidsJudged x = new BidsJudged();
        Make.items(x, 0, 10, 20, 30, 40);
        Make.items(x, 1, 1, 2, 3, 4);
        Make.items(x, 2, 40, 30, 20, 10);
        Make.items(x, 3, 7, 7, 7, 7);
        Make.items(x, 4, 10, 10, 30, 40);
        Make.items(x, 5, 10, 10, 10, 40);
        Make.items(x, 6, 20, 10, 30, 40);
        Make.items(x, 7, 10, 30, 20, 40);
        Check.due("as like as can be", x.chance(0, 0, 1), 1);
        Check.due("the least like order", x.chance(0, 0, 2), 24);
        Check.due("all orders are one", x.chance(0, 0, 3), 24);
        Check.due("two like items", x.chance(0, 0, 4), 2);
        Check.due("three like items", x.chance(0, 0, 5), 6);
        Check.due("two changed: as like as each change of neighbours", x.chance(0, 0, 6), 4);
        Check.due("the middle ones changed", x.chance(0, 0, 7), 4);
        Check.due("the other way", x.chance(0, 7, 0), 4);
    }

    private static void chanceIsRefused() {
        Check.says("CHANCE (0 .. 24). -1; -5.");
        BidsJudged x = Make.open(10, 20);
        for (int n : NOBODY) {
            Check.due("lot " + n, x.chance(n, 0, 1), -1);
            Check.due("a " + n, x.chance(0, n, 1), -1);
            Check.due("b " + n, x.chance(0, 0, n), -1);
        }
        Check.due("lot 1 of 1", x.chance(1, 0, 1), -1);
        Check.due("one twice", x.chance(0, 1, 1), -1);
        Check.due("no bid a", x.chance(0, 7, 1), -5);
        Check.due("no bid b", x.chance(0, 1, 7), -5);
        x.out(1, 0, true);
        Check.due("one that is out is there", x.chance(0, 0, 1), 6);
    }

    private static void ringOfLikenessZero() {
        Check.says("RINGS: BIDDERS of a LOT joined if LIKENESS is 0 or");
        BidsJudged x = new BidsJudged();
        Make.items(x, 2, 5, 5, 5, 5);
        Make.items(x, 6, 9, 9, 9, 9);
        Check.due("not beyond chance", x.chance(0, 2, 6), 24);
        Check.due("joined all the same", x.ring(0, 6), 2);
        Make.items(x, 4, 0, 0, 0, 0);
        Check.due("one of nothing", x.ring(0, 4), 2);
        BidsJudged y = new BidsJudged();
        Make.items(y, 3, 0, 0, 0, 0);
        Make.items(y, 1, 0, 0, 0, 0);
        Check.due("two of nothing", y.ring(0, 3), 1);
    }

    private static void ringBeyondChance() {
        Check.says("CHANCE is 1 and LIKENESS times 50 is no more than the product of both sums;");
        BidsJudged x = new BidsJudged();
        Make.items(x, 0, 1000, 2000, 3000, 4000);
        Make.items(x, 1, 1000, 2000, 3100, 3900);
        Check.due("chance is 1", x.chance(0, 0, 1), 1);
        Check.due("just the product", x.likeness(0, 0, 1) * 50, 100000000);
        Check.due("joined", x.ring(0, 1), 0);
        Make.items(x, 1, 1000, 2000, 3101, 3899);
        Check.due("chance is 1 still", x.chance(0, 0, 1), 1);
        Check.due("more than the product", x.likeness(0, 0, 1) * 50, 101000000);
        Check.due("not joined", x.ring(0, 1), 1);
    }

    private static void ringOfManyOrders() {
        Check.says("joined if LIKENESS is 0 or CHANCE is 1 and");
        BidsJudged x = new BidsJudged();
        Make.items(x, 0, 1000, 1000, 3000, 4000);
        Make.items(x, 1, 1000, 1001, 3000, 4000);
        Check.due("chance is 2", x.chance(0, 0, 1), 2);
        Check.due("far below the product", x.likeness(0, 0, 1) * 50 <= 9000L * 9001);
        Check.due("not joined", x.ring(0, 1), 1);
    }

    private static void ringByWayOfOthers() {
        Check.says("(also by way of others).");
        BidsJudged x = new BidsJudged();
        int[] bidders = {3, 7, 0, 5, 6};
        for (int i = 0; i < bidders.length; i++) {
            Make.items(x, bidders[i], 1000 + 90 * i, 2000, 3000, 4000);
        }
        Check.due("neighbours are joined", x.likeness(0, 3, 7) * 50 <= 10000L * 10090);
        Check.due("those beyond are not", x.likeness(0, 3, 0) * 50 > 10000L * 10180);
        for (int bidder : bidders) {
            Check.due("the least of all, of " + bidder, x.ring(0, bidder), 0);
        }
        x.withdraw(0, 0);
        Check.due("two are left of the one", x.ring(0, 7), 3);
        Check.due("two are left of the other", x.ring(0, 6), 5);
    }

    private static void ringOfThoseThatAreThere() {
        Check.says("the least BIDDER with whom a BIDDER is joined (itself, if alone).");
        BidsJudged x = new BidsJudged();
        x.lots(2);
        Make.items(x, 4, 1, 2, 3, 4);
        Check.due("alone", x.ring(0, 4), 4);
        Make.items(x, 6, 10, 20, 30, 40);
        Check.due("joined", x.ring(0, 6), 4);
        Check.due("the least of it", x.ring(0, 4), 4);
        Make.items(x, 1, 4, 3, 2, 1);
        Check.due("one less, but not joined", x.ring(0, 6), 4);
        x.out(4, 0, true);
        Check.due("one that is out", x.ring(0, 6), 4);
        x.bid(2, 1, 0, 1, 2, 3, 4, 10, 0);
        Check.due("a bid of another lot", x.ring(0, 6), 4);
        Check.due("alone in the other lot", x.ring(1, 2), 2);
    }

    private static void ringIsRefused() {
        Check.says("(itself, if alone). -1; -5.");
        BidsJudged x = Make.open(10);
        for (int n : NOBODY) {
            Check.due("lot " + n, x.ring(n, 0), -1);
            Check.due("bidder " + n, x.ring(0, n), -1);
        }
        Check.due("lot 1 of 1", x.ring(1, 0), -1);
        Check.due("no bid", x.ring(0, 1), -5);
        Check.due("no bid of the last", x.ring(0, 7), -5);
    }

    private static void eachOnce() {
        Check.says("A FRAMEWORK: BIDDERS in a row (told; each once), each with ROOM (1 .. 999).");
        BidsJudged x = new BidsJudged();
        for (int i = 0; i < 8; i++) {
            int bidder = 7 - i;
            Check.due("how many", x.join(bidder, i == 0 ? 1 : 999), i + 1);
            Check.due("once more", x.join(bidder, 5), -3);
            Check.due("its room", x.room(bidder), i == 0 ? 1 : 999);
        }
        Check.due("in the row in which they came", x.call(1), 7);
        Check.due("the next", x.call(1), 6);
    }

    private static void joinIsRefused() {
        Check.says("A BIDDER more in the FRAMEWORK: how many. -1; -3 it is in it; -4; -6.");
        BidsJudged x = new BidsJudged();
        for (int n : NOBODY) {
            Check.due("bidder " + n, x.join(n, 5), -1);
        }
        Check.due("0", x.join(0, 0), -4);
        Check.due("the least int", x.join(0, LEAST), -4);
        Check.due("1000", x.join(0, 1000), -6);
        Check.due("the greatest int", x.join(0, GREATEST), -6);
        Check.due("it is in none", x.room(0), -3);
        Check.due("the first", x.join(0, 5), 1);
        Check.due("it is in it", x.join(0, 6), -3);
        Check.due("its room stays", x.room(0), 5);
    }

    private static BidsJudged row(int... bidderAndRoom) {
        BidsJudged x = new BidsJudged();
        for (int i = 0; i + 1 < bidderAndRoom.length; i += 2) {
            x.join(bidderAndRoom[i], bidderAndRoom[i + 1]);
        }
        return x;
    }

    private static void callGoesRound() {
        Check.says("CALLS (1 .. 999) go to the first one, from the one behind the latest to whom one went, round,");
        BidsJudged x = row(3, 100, 1, 100, 5, 100);
        int[] want = {3, 1, 5, 3, 1, 5, 3};
        for (int i = 0; i < want.length; i++) {
            Check.due("call " + i, x.call(1), want[i]);
        }
        x.join(0, 100);
        Check.due("behind the latest", x.call(1), 1);
        Check.due("behind it", x.call(1), 5);
        Check.due("one that came in at the end", x.call(1), 0);
        Check.due("round", x.call(1), 3);
        BidsJudged y = row(6, 3);
        Check.due("alone", y.call(1), 6);
        Check.due("alone again", y.call(1), 6);
    }

    private static void justSoMuchRoom() {
        Check.says("who has so much ROOM left (it is less then); who has not is passed over.");
        BidsJudged x = row(3, 5, 1, 6, 5, 999);
        Check.due("3 is passed over", x.call(6), 1);
        Check.due("it had just so much", x.room(1), 0);
        Check.due("3's room stays", x.room(3), 5);
        Check.due("the greatest call", x.call(999), 5);
        Check.due("its room", x.room(5), 0);
        Check.due("less and just so much", x.call(5), 3);
        Check.due("none has any", x.call(1), -9);
    }

    private static void callToNone() {
        Check.says("A CALL: to whom it goes; -9 to none.");
        BidsJudged x = new BidsJudged();
        Check.due("nobody is in the row", x.call(1), -9);
        x.join(3, 5);
        x.join(1, 9);
        x.join(5, 5);
        Check.due("the first", x.call(1), 3);
        Check.due("more than any has", x.call(10), -9);
        Check.due("it went to none, the latest is 3", x.call(1), 1);
        Check.due("no room is less by it", x.room(1) + x.room(3) + x.room(5), 17);
        Check.due("it is no refusal", x.count(16), 0);
    }

    private static void callIsRefused() {
        Check.says("A CALL: to whom it goes; -9 to none. -4; -6.");
        BidsJudged x = row(3, 999, 1, 999);
        int[] below = {0, -1, LEAST};
        for (int n : below) {
            Check.due("call " + n, x.call(n), -4);
        }
        int[] above = {1000, GREATEST};
        for (int n : above) {
            Check.due("call " + n, x.call(n), -6);
        }
        Check.due("none of them was one", x.decline(), -3);
        Check.due("the least", x.call(1), 3);
        Check.due("the greatest", x.call(999), 1);
        x.call(1000);
        Check.due("a refused one is not the latest", x.decline(), -9);
    }

    private static void roomAgain() {
        Check.says("Who DECLINES the latest CALL has the ROOM again, and it goes on to the next one behind who has,");
        BidsJudged x = row(3, 10, 1, 4, 5, 10, 0, 5);
        Check.due("a call", x.call(5), 3);
        Check.due("3's room", x.room(3), 5);
        Check.due("1 is passed over", x.decline(), 5);
        Check.due("3 has it again", x.room(3), 10);
        Check.due("1's room stays", x.room(1), 4);
        Check.due("5's room", x.room(5), 5);
        Check.due("just so much", x.decline(), 0);
        Check.due("5 has it again", x.room(5), 10);
        Check.due("0's room", x.room(0), 0);
        Check.due("the next call is behind the latest", x.call(1), 3);
    }

    private static void notToTheFirst() {
        Check.says("but not to the one to whom it went first, or beyond.");
        BidsJudged x = row(3, 10, 1, 10, 5, 10);
        x.call(1);
        Check.due("first to 1", x.call(5), 1);
        Check.due("on", x.decline(), 5);
        Check.due("round", x.decline(), 3);
        Check.due("not to 1, nor to 5 beyond", x.decline(), -9);
        Check.due("all room again", x.room(3) + x.room(1) + x.room(5), 29);
        Check.due("there is none now", x.decline(), -3);
        Check.due("behind 3, the latest to whom it went", x.call(5), 1);
    }

    private static void declineBehindNewOnes() {
        Check.says("it goes on to the next one behind who has");
        BidsJudged x = row(3, 10, 1, 10);
        x.call(1);
        Check.due("the last in the row", x.call(1), 1);
        x.join(6, 10);
        Check.due("one that came in behind", x.decline(), 6);
        Check.due("round", x.decline(), 3);
        Check.due("none", x.decline(), -9);
    }

    private static void allOthersHaveNoRoom() {
        Check.says("-9 to none (all others behind, once round, have no ROOM).");
        BidsJudged x = row(3, 10, 1, 4, 5, 4);
        x.call(5);
        Check.due("none has so much", x.decline(), -9);
        Check.due("its room again", x.room(3), 10);
        Check.due("behind 3", x.call(4), 1);
        BidsJudged y = row(2, 10);
        y.call(10);
        Check.due("alone", y.decline(), -9);
        Check.due("alone, its room again", y.room(2), 10);
        Check.due("it can have the next", y.call(10), 2);
    }

    private static void declineIsRefused() {
        Check.says("-3 there is none, or it went to none.");
        BidsJudged x = new BidsJudged();
        Check.due("there is none", x.decline(), -3);
        x.join(3, 5);
        Check.due("there is none still", x.decline(), -3);
        x.call(6);
        Check.due("it went to none", x.decline(), -3);
        x.call(2);
        x.call(6);
        Check.due("the latest went to none", x.decline(), -3);
        Check.due("the one before it stays", x.room(3), 3);
        x.call(1);
        x.decline();
        Check.due("declined, it went to none", x.decline(), -3);
        Check.due("room was had again once", x.room(3), 3);
    }

    private static void roomIsRefused() {
        Check.says("ROOM left of a BIDDER in the FRAMEWORK. -1; -3 it is in none.");
        BidsJudged x = row(0, 1, 7, 999);
        for (int n : NOBODY) {
            Check.due("bidder " + n, x.room(n), -1);
        }
        Check.due("the first", x.room(0), 1);
        Check.due("the last", x.room(7), 999);
        Check.due("it is in none", x.room(6), -3);
        x.call(1);
        Check.due("none left", x.room(0), 0);
    }
}
