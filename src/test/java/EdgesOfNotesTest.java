/** The edges that part II names of notes, those barred and quality, with promises 10 to 12. */
public final class EdgesOfNotesTest {
    private static final int[] NOBODY = {-1, 8, Integer.MIN_VALUE, Integer.MAX_VALUE};

    public static void main(String[] args) {
        notes();
        noteIsRefused();
        notesWhileOpen();
        notesOfBidsThatStand();
        barred();
        barredWhereItStands();
        barIsRefused();
        leastAndGreatest();
        leastAndGreatestOnce();
        leftOutOfThoseThatCount();
        withoutNotes();
        qualityInLeastTerms();
        qualityIsRefused();
        Check.end("EdgesOfNotesTest");
    }

    private static void quality(BidsJudged x, String when, int bidder, int above, int below) {
        Check.due(when + ", above", x.quality(bidder, 0, 0), above);
        Check.due(when + ", below", x.quality(bidder, 0, 1), below);
    }

    private static void notes() {
        Check.says("SCORERS 0 .. 5 give a BIDDER for a LOT 0 .. 100 (told again: anew)");
        BidsJudged x = Make.closed(10, 20);
        for (int scorer = 0; scorer < 6; scorer++) {
            Check.due("none before", x.note(scorer, 0, 0, 0), -9);
            Check.due("the least", x.note(scorer, 0, 0, 100), 0);
            Check.due("the greatest", x.note(scorer, 0, 0, 7), 100);
        }
        quality(x, "anew", 0, 7, 1);
        Check.due("the other bidder's own", x.note(5, 1, 0, 3), -9);
    }

    private static void noteIsRefused() {
        Check.says("A NOTE: what it was (-9: none). -1; -5; -3 BIDS are OPEN; -4; -6.");
        BidsJudged x = Make.closed(10, 20);
        for (int n : NOBODY) {
            Check.due("scorer " + n, x.note(n, 0, 0, 1), -1);
            Check.due("bidder " + n, x.note(0, n, 0, 1), -1);
            Check.due("lot " + n, x.note(0, 0, n, 1), -1);
        }
        Check.due("scorer 6", x.note(6, 0, 0, 1), -1);
        Check.due("lot 1 of 1", x.note(0, 0, 1, 1), -1);
        Check.due("no bid", x.note(0, 2, 0, 1), -5);
        Check.due("-1", x.note(0, 0, 0, -1), -4);
        Check.due("the least int", x.note(0, 0, 0, Integer.MIN_VALUE), -4);
        Check.due("101", x.note(0, 0, 0, 101), -6);
        Check.due("the greatest int", x.note(0, 0, 0, Integer.MAX_VALUE), -6);
        Check.due("no note came of it", x.note(0, 0, 0, 1), -9);
    }

    private static void notesWhileOpen() {
        Check.says("while BIDS are not OPEN, if the BID STANDS.");
        BidsJudged x = Make.open(10);
        Check.due("closing not told", x.note(0, 0, 0, 1), -3);
        x.closing(2);
        x.time(2);
        Check.due("at closing", x.note(0, 0, 0, 1), -3);
        x.time(1);
        Check.due("behind it", x.note(0, 0, 0, 1), -9);
    }

    private static void notesOfBidsThatStand() {
        Check.says("if the BID STANDS.");
        BidsJudged x = Make.open(50, 100);
        x.set(2, 51);
        x.ask(0, 0, 3);
        Make.close(x);
        x.note(0, 0, 0, 40);
        x.time(3);
        Check.due("out by no answer", x.note(0, 0, 0, 1), -5);
        x.out(1, 0, true);
        Check.due("out as told", x.note(0, 1, 0, 1), -5);
        x.out(0, 0, false);
        Check.due("it stands again, its note was kept", x.note(0, 0, 0, 1), 40);
    }

    private static void barred() {
        Check.says("that SCORER's notes for that LOT's BIDS count nothing at all");
        BidsJudged x = Make.closed(10, 20, 30);
        x.note(0, 0, 0, 10);
        x.note(1, 0, 0, 20);
        x.note(0, 1, 0, 30);
        x.note(0, 2, 0, 40);
        x.note(1, 2, 0, 41);
        x.bar(0, 1, true);
        quality(x, "another bidder's bid", 0, 20, 1);
        quality(x, "its own bid", 1, 0, 1);
        quality(x, "a third one's bid", 2, 41, 1);
        Check.due("a note can be told all the same", x.note(0, 0, 0, 12), 10);
        x.bar(1, 2, true);
        quality(x, "none counts", 0, 0, 1);
        x.bar(0, 1, false);
        quality(x, "one counts again", 0, 12, 1);
    }

    private static void barredWhereItStands() {
        Check.says("(of LOTS for which that BIDDER's BID STANDS).");
        BidsJudged x = new BidsJudged();
        x.lots(3);
        for (int lot = 0; lot < 3; lot++) {
            Make.bid(x, 0, lot, 10);
            Make.bid(x, 1, lot, 10);
        }
        x.withdraw(1, 1);
        Make.close(x);
        x.out(1, 2, true);
        for (int lot = 0; lot < 3; lot++) {
            x.note(4, 0, lot, 60);
        }
        x.bar(4, 1, true);
        Check.due("it stands", x.quality(0, 0, 0), 0);
        Check.due("it was withdrawn", x.quality(0, 1, 0), 60);
        Check.due("it is out", x.quality(0, 2, 0), 60);
        x.out(1, 2, false);
        Check.due("it is out no more", x.quality(0, 2, 0), 0);
        x.out(1, 0, true);
        Check.due("it stands no more", x.quality(0, 0, 0), 60);
    }

    private static void barIsRefused() {
        Check.says("A SCORER is BARRED for a BIDDER, or not: 1; 0 if it was so. -1.");
        BidsJudged x = new BidsJudged();
        for (int n : NOBODY) {
            Check.due("scorer " + n, x.bar(n, 0, true), -1);
            Check.due("bidder " + n, x.bar(0, n, true), -1);
        }
        Check.due("scorer 6", x.bar(6, 0, true), -1);
        int[] scorers = {0, 5};
        int[] bidders = {0, 7};
        for (int scorer : scorers) {
            for (int bidder : bidders) {
                Check.due("not barred at first", x.bar(scorer, bidder, false), 0);
                Check.due("barred", x.bar(scorer, bidder, true), 1);
                Check.due("it was so", x.bar(scorer, bidder, true), 0);
            }
        }
        Check.due("not barred", x.bar(5, 7, false), 1);
        Check.due("it was not", x.bar(5, 7, false), 0);
        Check.due("the others are still", x.bar(0, 7, true), 0);
        Check.due("another scorer is not", x.bar(1, 7, false), 0);
        Check.due("for another bidder not", x.bar(0, 6, false), 0);
    }

    private static void leastAndGreatest() {
        Check.says("if there are 4 or more without the least and the greatest one, the mean: a fraction;");
        BidsJudged x = Make.closed(10);
        int[] notes = {50, 0, 100, 30, 20, 93};
        int[] above = {50, 25, 50, 40, 100, 193};
        int[] below = {1, 1, 1, 1, 3, 4};
        for (int i = 0; i < 6; i++) {
            x.note(i, 0, 0, notes[i]);
            quality(x, "of " + (i + 1), 0, above[i], below[i]);
        }
    }

    private static void leastAndGreatestOnce() {
        Check.says("without the least and the greatest one, the mean");
        BidsJudged x = Make.closed(10, 20, 30);
        int[] twoLeast = {10, 10, 40, 90};
        int[] twoGreatest = {90, 40, 90, 10};
        for (int i = 0; i < 4; i++) {
            x.note(i, 0, 0, twoLeast[i]);
            x.note(i, 1, 0, twoGreatest[i]);
            x.note(i, 2, 0, 33);
        }
        quality(x, "of two least ones but one is left out", 0, 25, 1);
        quality(x, "of two greatest ones but one is left out", 1, 65, 1);
        quality(x, "all are alike", 2, 33, 1);
        for (int i = 0; i < 4; i++) {
            x.note(i, 2, 0, 0);
        }
        quality(x, "all are 0", 2, 0, 1);
        for (int i = 0; i < 4; i++) {
            x.note(i, 2, 0, 100);
        }
        quality(x, "all are 100", 2, 100, 1);
    }

    private static void leftOutOfThoseThatCount() {
        Check.says("QUALITY of a BID: of notes that count");
        BidsJudged x = Make.closed(10, 20);
        int[] notes = {0, 10, 20, 60};
        for (int i = 0; i < 4; i++) {
            x.note(i, 0, 0, notes[i]);
        }
        quality(x, "four count", 0, 15, 1);
        x.bar(0, 1, true);
        quality(x, "three count, none is left out", 0, 30, 1);
        x.note(4, 0, 0, 100);
        quality(x, "four count, a fifth is barred", 0, 40, 1);
    }

    private static void withoutNotes() {
        Check.says("0 without notes.");
        BidsJudged x = Make.closed(10, 20);
        quality(x, "none was told", 0, 0, 1);
        x.note(3, 0, 0, 70);
        x.bar(3, 0, true);
        quality(x, "none counts", 0, 0, 1);
        BidsJudged y = Make.open(10);
        quality(y, "while open", 0, 0, 1);
    }

    private static void qualityInLeastTerms() {
        Check.says("QUALITY of a BID: part 0 above, 1 below, in least terms.");
        BidsJudged x = Make.closed(10);
        x.note(0, 0, 0, 3);
        x.note(1, 0, 0, 5);
        quality(x, "8 by 2", 0, 4, 1);
        x.note(1, 0, 0, 4);
        quality(x, "7 by 2", 0, 7, 2);
        x.note(2, 0, 0, 0);
        quality(x, "7 by 3", 0, 7, 3);
        for (int i = 0; i < 6; i++) {
            x.note(i, 0, 0, i == 5 ? 99 : i);
        }
        quality(x, "10 by 4", 0, 5, 2);
    }

    private static void qualityIsRefused() {
        Check.says("in least terms. -1; -2; -5.");
        BidsJudged x = Make.closed(10);
        for (int n : NOBODY) {
            Check.due("bidder " + n, x.quality(n, 0, 0), -1);
            Check.due("lot " + n, x.quality(0, n, 0), -1);
        }
        Check.due("lot 1 of 1", x.quality(0, 1, 0), -1);
        Check.due("part -1", x.quality(0, 0, -1), -2);
        Check.due("part 2", x.quality(0, 0, 2), -2);
        Check.due("part, the least int", x.quality(0, 0, Integer.MIN_VALUE), -2);
        Check.due("part, the greatest int", x.quality(0, 0, Integer.MAX_VALUE), -2);
        Check.due("no bid", x.quality(1, 0, 0), -5);
        x.note(0, 0, 0, 9);
        x.out(0, 0, true);
        Check.due("of one that is out", x.quality(0, 0, 0), 9);
    }
}
