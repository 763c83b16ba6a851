/** The edges that part V names: awards, standstill, challenges, signing, changes; promises 27 to 32. */
public final class EdgesOfAwardTest {
    private static final int LEAST = Integer.MIN_VALUE;
    private static final int GREATEST = Integer.MAX_VALUE;
    private static final int[] NOBODY = {-1, 8, LEAST, GREATEST};

    public static void main(String[] args) {
        asItIsNow();
        awardIsRefused();
        awardedIsRefused();
        standstill();
        whileItGoesOn();
        standstillBeyondTheLastMinute();
        challengeIsRefused();
        twentyChallenges();
        holdsTillJudged();
        judgeIsRefused();
        holdsNoMore();
        stageOfFormula();
        stageOfNotes();
        stageOfOuts();
        outsByNoAnswer();
        awardedAnew();
        signed();
        signIsRefused();
        sumsOfChanges();
        partOfThePrice();
        priceAsAwarded();
        beyondIsNotTaken();
        changeIsRefused();
        Check.end("EdgesOfAwardTest");
    }

    private static void asItIsNow() {
        Check.says("TOLD: the WHOLE as it is now is told to BIDDERS by a way (0 at once, 1 by letter): AWARDED.");
        BidsJudged x = new BidsJudged();
        x.lots(3);
        Make.bid(x, 0, 0, 10);
        Make.bid(x, 1, 0, 20);
        Make.bid(x, 2, 1, 30);
        Make.close(x);
        Check.due("lots given", x.award(0), 2);
        x.out(0, 0, true);
        Check.due("the whole is another then", x.winner(0), 1);
        Check.due("awarded is as it was told", x.awarded(0), 0);
        Check.due("lot 1", x.awarded(1), 2);
        Check.due("lot 2 to nobody", x.awarded(2), -9);
        BidsJudged y = new BidsJudged();
        Make.close(y);
        Check.due("nothing to give", y.award(1), 0);
        Check.due("awarded all the same", y.count(6), 1);
        Check.due("to nobody", y.awarded(0), -9);
    }

    private static void awardIsRefused() {
        Check.says("THE WHOLE is AWARDED, told by a way: LOTS given. -2; -3 BIDS are OPEN, it is AWARDED.");
        BidsJudged x = Make.open(10);
        int[] other = {-1, 2, LEAST, GREATEST};
        for (int way : other) {
            Check.due("way " + way, x.award(way), -2);
        }
        Check.due("open", x.award(0), -3);
        x.closing(0);
        Check.due("open at closing", x.award(1), -3);
        Check.due("not awarded", x.count(6), 0);
        x.time(1);
        Check.due("behind it", x.award(1), 1);
        Check.due("it is awarded", x.award(0), -3);
        x.time(18721);
        x.sign();
        Check.due("it is signed", x.award(0), -3);
    }

    private static void awardedIsRefused() {
        Check.says("Who was AWARDED a LOT; -9 nobody. -1; -3 it is not AWARDED.");
        BidsJudged x = Make.closed(10);
        for (int n : NOBODY) {
            Check.due("lot " + n, x.awarded(n), -1);
        }
        Check.due("lot 1 of 1", x.awarded(1), -1);
        Check.due("not awarded", x.awarded(0), -3);
        x.award(0);
        Check.due("awarded", x.awarded(0), 0);
        x.challenge(0, 0);
        x.judge(0, true);
        Check.due("awarded no more", x.awarded(0), -3);
        Check.due("signed, too", Make.signed(10).awarded(0), 0);
    }

    private static void standstill() {
        Check.says("STANDSTILL goes on till 10 days from then, by letter 13 (a day is 1440 minutes; that minute"
            + " included);");
        int[] minutes = {14400, 18720};
        for (int way = 0; way <= 1; way++) {
            BidsJudged x = Make.closed(10);
            x.time(76);
            x.award(way);
            x.time(minutes[way]);
            Check.due("that minute, way " + way, x.challenge(0, 0), 0);
            x.judge(0, false);
            Check.due("not signed in it, way " + way, x.sign(), -3);
            x.time(1);
            Check.due("over, way " + way, x.challenge(0, 0), -3);
            Check.due("signed behind it, way " + way, x.sign(), 1);
        }
    }

    private static void whileItGoesOn() {
        Check.says("a CHALLENGE (a LOT, a STAGE at fault: 0 the FORMULA, 1 NOTES, 2 a BID taken wrongly for OUT) while it"
            + " goes on;");
        BidsJudged x = Make.closed(10);
        Check.due("ahead of it", x.challenge(0, 0), -3);
        x.award(0);
        Check.due("in its first minute", x.challenge(0, 0), 0);
        x.time(14400);
        Check.due("in its last minute", x.challenge(0, 2), 1);
        x.time(1);
        Check.due("behind it", x.challenge(0, 1), -3);
    }

    private static void standstillBeyondTheLastMinute() {
        Check.says("that minute included)");
        BidsJudged x = Make.closed(10);
        x.time(985598);
        x.award(0);
        x.time(14400);
        Check.due("the last minute of all", x.count(0), 999999);
        Check.due("it goes on", x.sign(), -3);
        Check.due("and can be challenged", x.challenge(0, 0), 0);
    }

    private static void challengeIsRefused() {
        Check.says("A CHALLENGE: its number. -1; -2 STAGE; -3 not AWARDED, STANDSTILL is over, SIGNED; -6 there are"
            + " 20.");
        BidsJudged x = Make.closed(10);
        Check.due("not awarded", x.challenge(0, 0), -3);
        x.award(0);
        for (int n : NOBODY) {
            Check.due("lot " + n, x.challenge(n, 0), -1);
        }
        Check.due("lot 1 of 1", x.challenge(1, 0), -1);
        int[] other = {-1, 3, LEAST, GREATEST};
        for (int stage : other) {
            Check.due("stage " + stage, x.challenge(0, stage), -2);
        }
        for (int stage = 0; stage < 3; stage++) {
            Check.due("stage " + stage, x.challenge(0, stage), stage);
        }
        x.time(14401);
        Check.due("standstill is over", x.challenge(0, 0), -3);
        Check.due("signed", Make.signed(10).challenge(0, 0), -3);
    }

    private static void twentyChallenges() {
        Check.says("-6 there are 20.");
        BidsJudged x = Make.awarded(10);
        for (int i = 0; i < 20; i++) {
            Check.due("number " + i, x.challenge(0, i % 3), i);
        }
        Check.due("a 21st", x.challenge(0, 0), -6);
        Check.due("20 hold", x.count(8), 20);
        Check.due("there is no number 20", x.judge(20, false), -1);
        Check.due("the last one is judged", x.judge(19, false), 1);
        Check.due("there are 20, judged or not", x.challenge(0, 0), -6);
    }

    private static void holdsTillJudged() {
        Check.says("it HOLDS till it is JUDGED (told: right or not).");
        BidsJudged x = Make.awarded(10);
        x.challenge(0, 0);
        x.challenge(0, 1);
        Check.due("two", x.count(8), 2);
        x.judge(0, false);
        Check.due("one", x.count(8), 1);
        Check.due("awarded still", x.count(6), 1);
        x.time(500000);
        Check.due("it holds behind standstill", x.count(8), 1);
        Check.due("it can't be signed", x.sign(), -3);
        x.judge(1, false);
        Check.due("none", x.count(8), 0);
        Check.due("it can", x.sign(), 1);
    }

    private static void judgeIsRefused() {
        Check.says("It is JUDGED: 1. -1; -3 it was, or it HOLDS no more (the WHOLE is AWARDED no more, or anew).");
        BidsJudged x = Make.awarded(10);
        Check.due("there is none", x.judge(0, true), -1);
        x.challenge(0, 0);
        int[] nobody = {-1, 1, 20, LEAST, GREATEST};
        for (int n : nobody) {
            Check.due("challenge " + n, x.judge(n, true), -1);
        }
        Check.due("it is", x.judge(0, false), 1);
        Check.due("it was", x.judge(0, false), -3);
        Check.due("it was, and is not right then", x.judge(0, true), -3);
        Check.due("awarded still", x.count(6), 1);
    }

    private static void holdsNoMore() {
        Check.says("and the WHOLE is AWARDED no more, other CHALLENGES hold no more.");
        BidsJudged x = Make.awarded(10);
        for (int i = 0; i < 3; i++) {
            x.challenge(0, 0);
        }
        x.judge(1, true);
        Check.due("awarded no more", x.count(6), 0);
        Check.due("none holds", x.count(8), 0);
        Check.due("one ahead of it", x.judge(0, true), -3);
        Check.due("one behind it", x.judge(2, false), -3);
        Check.due("itself", x.judge(1, true), -3);
        x.award(0);
        Check.due("none holds when it is awarded anew", x.count(8), 0);
        Check.due("one of the former award", x.judge(2, true), -3);
        Check.due("a new one", x.challenge(0, 0), 3);
        Check.due("holds", x.count(8), 1);
        Check.due("and is judged", x.judge(3, true), 1);
    }

    /** Two lots with notes, bids that are out as told in each, a formula that is not q, and a tape. */
    private static BidsJudged challenged(int lot, int stage) {
        BidsJudged x = new BidsJudged();
        x.lots(2);
        for (int bidder = 0; bidder < 3; bidder++) {
            Make.bid(x, bidder, 0, 20);
            Make.bid(x, bidder, 1, 20);
        }
        Make.close(x);
        for (int at = 0; at < 6; at++) {
            x.note(0, at / 2, at % 2, 30);
            x.note(5, at / 2, at % 2, 40);
        }
        x.out(1, 0, true);
        x.out(1, 1, true);
        Check.formula(x, "p*2-20");
        x.feed(1, 'k');
        x.award(0);
        x.challenge(lot, stage);
        Check.due("right", x.judge(0, true), 1);
        return x;
    }

    private static void stageOfFormula() {
        Check.says("If right: STAGE 0: the FORMULA is q again;");
        BidsJudged x = challenged(1, 0);
        Check.due("q", x.points(0, 0, 0), 35);
        Check.due("of each lot", x.points(2, 1, 0), 35);
        Check.due("notes stay", x.quality(0, 1, 0), 35);
        Check.due("those out stay", x.count(3), 4);
        Check.due("the tape stays", x.count(9), 1);
        Check.due("not awarded", x.awarded(0), -3);
        Check.due("not right, it stays", formulaNotRight(), 20);
    }

    private static long formulaNotRight() {
        BidsJudged x = Make.closed(20);
        Check.formula(x, "p");
        x.award(0);
        x.challenge(0, 0);
        x.judge(0, false);
        return x.points(0, 0, 0);
    }

    private static void stageOfNotes() {
        Check.says("STAGE 1: the LOT's NOTES are none any more;");
        BidsJudged x = challenged(1, 1);
        Check.due("none of that lot", x.quality(0, 1, 0), 0);
        Check.due("none of another bidder", x.quality(2, 1, 0), 0);
        Check.due("of the other lot they stay", x.quality(0, 0, 0), 35);
        Check.due("the formula stays", x.points(0, 1, 0), 20);
        Check.due("those out stay", x.count(3), 4);
        for (int scorer = 0; scorer < 6; scorer++) {
            Check.due("none of scorer " + scorer, x.note(scorer, 2, 1, 9), -9);
        }
        Check.due("the other lot's note", x.note(5, 2, 0, 9), 40);
        x.out(1, 1, false);
        Check.due("of one that was out neither", x.quality(1, 1, 0), 0);
    }

    private static void stageOfOuts() {
        Check.says("STAGE 2: likewise, and its BIDS that are OUT (told, or by no answer) are so no more;");
        BidsJudged x = challenged(0, 2);
        Check.due("notes are none", x.quality(0, 0, 0), 0);
        Check.due("of the other lot they stay", x.quality(0, 1, 0), 35);
        Check.due("out no more", x.points(1, 0, 0), 20);
        Check.due("in the other lot still", x.count(3), 5);
        Check.due("the formula stays", x.points(0, 0, 0), 20);
        Check.due("it was told otherwise", x.out(1, 0, false), 0);
        Check.due("in the other lot it is out", x.out(1, 1, true), 0);
    }

    private static void outsByNoAnswer() {
        Check.says("its BIDS that are OUT (told, or by no answer) are so no more;");
        BidsJudged x = Make.open(10, 20, 500, 12);
        x.set(2, 100);
        x.ask(0, 0, 5);
        x.ask(1, 0, 5);
        x.ask(3, 0, 900);
        Make.close(x);
        x.time(10);
        x.out(1, 0, true);
        x.out(7, 0, true);
        Check.due("two are out", x.count(3), 2);
        x.award(0);
        x.challenge(0, 2);
        x.judge(0, true);
        Check.due("none is out", x.count(3), 4);
        Check.due("by no answer: asked no more", x.answer(0, 0), -3);
        Check.due("by both: asked no more", x.answer(1, 0), -3);
        Check.due("it was not out: it is asked still", x.answer(3, 0), 1);
        Check.due("it has no bid: it is out still", x.out(7, 0, true), 0);
    }

    private static void awardedAnew() {
        Check.says("it HOLDS no more (the WHOLE is AWARDED no more, or anew).");
        BidsJudged x = Make.awarded(10, 20);
        x.challenge(0, 1);
        x.time(100);
        x.judge(0, true);
        x.out(0, 0, true);
        x.time(20000);
        Check.due("by letter", x.award(1), 1);
        Check.due("as it is then", x.awarded(0), 1);
        x.time(18720);
        Check.due("standstill is from then", x.sign(), -3);
        Check.due("a challenge has the next number", x.challenge(0, 1), 1);
        x.judge(1, false);
        x.time(1);
        Check.due("over", x.sign(), 1);
        Check.due("the price as awarded anew", x.change(0, 10), 10);
    }

    private static void signed() {
        Check.says("SIGNED (told): STANDSTILL is over, no CHALLENGE HOLDS.");
        BidsJudged x = Make.awarded(10);
        x.time(14400);
        Check.due("it goes on", x.sign(), -3);
        x.challenge(0, 0);
        x.time(1);
        Check.due("one holds", x.sign(), -3);
        Check.due("not signed", x.count(7), 0);
        x.judge(0, false);
        Check.due("signed", x.sign(), 1);
        Check.due("it is", x.count(7), 1);
        Check.due("and awarded", x.count(6), 1);
    }

    private static void signIsRefused() {
        Check.says("All that is AWARDED is SIGNED: 1. -3 not AWARDED, STANDSTILL is not over, a CHALLENGE HOLDS,"
            + " SIGNED.");
        Check.due("new", new BidsJudged().sign(), -3);
        BidsJudged x = Make.closed(10);
        x.time(20000);
        Check.due("not awarded", x.sign(), -3);
        x.award(0);
        Check.due("not over", x.sign(), -3);
        x.challenge(0, 0);
        x.time(14401);
        Check.due("one holds", x.sign(), -3);
        x.judge(0, true);
        Check.due("awarded no more", x.sign(), -3);
        x.award(0);
        x.time(14401);
        Check.due("signed", x.sign(), 1);
        Check.due("it is signed", x.sign(), -3);
    }

    private static void sumsOfChanges() {
        Check.says("CHANGES of a signed LOT: sums (1 .. 999999);");
        BidsJudged x = Make.open();
        x.rate(1, 100000);
        x.bid(0, 0, 1, 99999, 0, 0, 0, 99999, 0);
        Make.close(x);
        x.award(0);
        x.time(14401);
        x.sign();
        Check.due("0", x.change(0, 0), -4);
        Check.due("the least", x.change(0, 1), 1);
        Check.due("the greatest", x.change(0, 999999), 1000000);
        Check.due("one above", x.change(0, 1000000), -6);
        Check.due("the greatest int", x.change(0, GREATEST), -6);
        Check.due("the least int", x.change(0, LEAST), -4);
        Check.due("-1", x.change(0, -1), -4);
        for (int i = 2; i <= 4; i++) {
            Check.due("together", x.change(0, 999999), 999999 * i + 1);
        }
        Check.due("beyond half of 9999900", x.change(0, 999954), -9);
        Check.due("just half of it", x.change(0, 999953), 4999950);
    }

    private static void partOfThePrice() {
        Check.says("at most a PART (0 .. 100 hundredths; 50 at first) of its PRICE as it was AWARDED, together:");
        BidsJudged x = Make.signed(101);
        Check.due("50 at first: 51 is beyond", x.change(0, 51), -9);
        Check.due("20", x.change(0, 20), 20);
        Check.due("50", x.change(0, 30), 50);
        Check.due("50 and one", x.change(0, 1), -9);
        x.set(3, 51);
        Check.due("51 and 51 hundredths", x.change(0, 1), 51);
        Check.due("52", x.change(0, 1), -9);
        x.set(3, 100);
        Check.due("102 of 101", x.change(0, 51), -9);
        Check.due("101 of 101", x.change(0, 50), 101);
        x.set(3, 0);
        Check.due("0", x.change(0, 1), -9);
        BidsJudged y = Make.signed(100);
        Check.due("just half", y.change(0, 50), 50);
        Check.due("and one", y.change(0, 1), -9);
    }

    private static void priceAsAwarded() {
        Check.says("of its PRICE as it was AWARDED");
        BidsJudged x = new BidsJudged();
        x.lots(2);
        x.bid(0, 0, 0, 100, 0, 0, 0, 300, 0);
        x.bid(0, 1, 0, 40, 0, 0, 0, 40, 0);
        x.rebate(0, 2, 50);
        Make.close(x);
        x.award(0);
        x.set(0, 1);
        Check.due("its price is another now", x.price(0, 0), 300);
        x.time(14401);
        x.sign();
        Check.due("beyond half of 100", x.change(0, 51), -9);
        Check.due("half of 100, without rebate", x.change(0, 50), 50);
        Check.due("each lot has its own", x.change(1, 20), 20);
        Check.due("and its own bound", x.change(1, 1), -9);
    }

    private static void beyondIsNotTaken() {
        Check.says("one beyond that is not taken.");
        BidsJudged x = Make.signed(100);
        Check.due("beyond", x.change(0, 999999), -9);
        Check.due("nothing was taken", x.change(0, 49), 49);
        Check.due("beyond together", x.change(0, 2), -9);
        Check.due("one less is taken", x.change(0, 1), 50);
        Check.due("it is no refusal", x.count(13) + x.count(14) + x.count(16), 0);
    }

    private static void changeIsRefused() {
        Check.says("what all are together; -9 it would be beyond the law's PART. -1; -3 not SIGNED, nobody has it; -4;"
            + " -6.");
        BidsJudged x = new BidsJudged();
        x.lots(2);
        Make.bid(x, 0, 1, 100);
        Make.close(x);
        Check.due("not awarded", x.change(1, 1), -3);
        x.award(0);
        Check.due("not signed", x.change(1, 1), -3);
        x.time(14401);
        x.sign();
        for (int n : NOBODY) {
            Check.due("lot " + n, x.change(n, 1), -1);
        }
        Check.due("lot 2 of 2", x.change(2, 1), -1);
        Check.due("nobody has it", x.change(0, 1), -3);
        Check.due("below", x.change(1, 0), -4);
        Check.due("above", x.change(1, 1000000), -6);
        Check.due("taken", x.change(1, 1), 1);
    }
}
