/** Promises 19 to 32: too low, out, the whole, awards, challenges, signing, changes. */
public final class WholeTest {
    public static void main(String[] args) {
        low();
        ask();
        answer();
        out();
        most();
        rebate();
        whole();
        wholeTies();
        winner();
        award();
        awarded();
        challenge();
        challengesHave20();
        judge();
        judgeRight();
        sign();
        change();
        Check.end("WholeTest");
    }

    private static void low() {
        BidsJudged x = Make.open(50, 100, 120);
        Check.due("19: limit 0", x.low(0, 0), 0);
        Check.due("19: bidder 8", x.low(8, 0), -1);
        Check.due("19: lot 1", x.low(0, 1), -1);
        Check.due("19: none", x.low(3, 0), -5);
        x.set(2, 45);
        Check.due("19: 49 and a half", x.low(0, 0), 0);
        x.set(2, 46);
        Check.due("19: 50 and 6 tenths", x.low(0, 0), 1);
        Check.due("19: not the others", x.low(1, 0), 0);
        x.out(1, 0, true);
        Check.due("19: doesn't stand", x.low(1, 0), -5);
        x.set(2, 42);
        Check.due("19: of those that stand", x.low(0, 0), 1);
        x.set(2, 100);
        x.out(2, 0, true);
        Check.due("19: no others", x.low(0, 0), 0);
        BidsJudged y = Make.open(50, 100);
        y.set(2, 50);
        Check.due("19: just the limit", y.low(0, 0), 0);
        y.set(2, 51);
        Check.due("19: below the limit", y.low(0, 0), 1);
    }

    private static void ask() {
        BidsJudged x = Make.open(50, 100);
        x.time(5);
        x.set(2, 51);
        Check.due("20: bidder 8", x.ask(8, 0, 9), -1);
        Check.due("20: lot 1", x.ask(0, 1, 9), -1);
        Check.due("20: none", x.ask(3, 0, 9), -5);
        Check.due("20: not too low", x.ask(1, 0, 1), -3);
        Check.due("20: now", x.ask(0, 0, 5), -4);
        Check.due("20: beyond", x.ask(0, 0, 1000000), -6);
        Check.due("20: next minute", x.ask(0, 0, 6), 1);
        Check.due("20: asked", x.ask(0, 0, 5), -3);
        x.time(1);
        Check.due("20: that minute it stands", x.count(3), 2);
        x.time(1);
        Check.due("20: behind it it is out", x.count(3), 1);
        Check.due("20: doesn't stand", x.ask(0, 0, 9), -5);
        BidsJudged y = Make.open(50, 100);
        y.set(2, 51);
        Check.due("20: last minute", y.ask(0, 0, 999999), 1);
        y.withdraw(0, 0);
        Make.bid(y, 0, 0, 50);
        Check.due("20: a new bid is not asked", y.ask(0, 0, 7), 1);
        y.answer(0, 0);
        Check.due("20: the first minute of all", y.ask(0, 0, 1), 1);
        Check.due("20: asked then", y.ask(0, 0, 2), -3);
    }

    private static void answer() {
        BidsJudged x = Make.open(50, 100);
        x.set(2, 51);
        x.ask(0, 0, 3);
        Check.due("21: bidder 8", x.answer(8, 0), -1);
        Check.due("21: lot 1", x.answer(0, 1), -1);
        Check.due("21: none", x.answer(3, 0), -5);
        Check.due("21: not asked", x.answer(1, 0), -3);
        x.out(0, 0, true);
        Check.due("21: out", x.answer(0, 0), -5);
        x.out(0, 0, false);
        x.time(3);
        Check.due("21: by that minute", x.answer(0, 0), 1);
        Check.due("21: asked no more", x.answer(0, 0), -3);
        x.time(1);
        Check.due("21: it stands", x.count(3), 2);
        x.ask(0, 0, 5);
        x.time(2);
        Check.due("21: too late", x.answer(0, 0), -5);
    }

    private static void out() {
        BidsJudged x = Make.open(50, 100);
        Check.due("22: bidder 8", x.out(8, 0, true), -1);
        Check.due("22: lot 1", x.out(0, 1, false), -1);
        Check.due("22: not out", x.out(0, 0, false), 0);
        Check.due("22: out", x.out(0, 0, true), 1);
        Check.due("22: again", x.out(0, 0, true), 0);
        Check.due("22: one stands", x.count(3), 1);
        Check.due("22: both are there", x.count(2), 2);
        Check.due("22: no more", x.out(0, 0, false), 1);
        Check.due("22: without a bid", x.out(5, 0, true), 1);
        Make.bid(x, 5, 0, 60);
        Check.due("22: it doesn't stand", x.count(3), 2);
        x.set(2, 51);
        x.ask(0, 0, 5);
        Check.due("22: asked is not out", x.out(0, 0, false), 0);
        x.time(6);
        Check.due("22: out by no answer", x.out(0, 0, true), 0);
        Check.due("22: not is told, too", x.out(0, 0, false), 1);
        Check.due("22: it stands", x.count(3), 2);
        Check.due("22: asked no more", x.answer(0, 0), -3);
    }

    private static void most() {
        BidsJudged x = new BidsJudged();
        Check.due("23: bidder 8", x.most(8, 0), -1);
        Check.due("23: below", x.most(7, -1), -4);
        Check.due("23: above", x.most(7, 7), -6);
        Check.due("23: at first", x.most(7, 0), 6);
        Check.due("23: then", x.most(7, 6), 0);
        Check.due("23: the others'", x.most(0, 3), 6);
    }

    private static void rebate() {
        BidsJudged x = new BidsJudged();
        Check.due("24: bidder 8", x.rebate(8, 0, 0), -1);
        Check.due("24: m 0", x.rebate(0, 0, 51), -4);
        Check.due("24: v -1", x.rebate(0, 7, -1), -4);
        Check.due("24: m 7", x.rebate(0, 7, 0), -6);
        Check.due("24: v 51", x.rebate(0, 1, 51), -6);
        Check.due("24: at first", x.rebate(0, 6, 50), 0);
        Check.due("24: then", x.rebate(0, 6, 0), 50);
        Check.due("24: another m", x.rebate(0, 5, 1), 0);
        Check.due("24: another bidder", x.rebate(1, 5, 1), 0);
    }

    private static void whole() {
        BidsJudged x = new BidsJudged();
        x.lots(2);
        Make.bid(x, 0, 0, 101);
        Make.bid(x, 0, 1, 200);
        Make.bid(x, 1, 0, 110);
        Check.due("25: what before state", x.whole(2), -2);
        Check.due("25: what -1", x.whole(-1), -2);
        Check.due("25: open", x.whole(0), -3);
        Make.close(x);
        Check.due("25: lots given", x.whole(0), 2);
        Check.due("25: value", x.whole(1), 301);
        x.rebate(0, 1, 1);
        Check.due("25: rebate of one is not of two", x.whole(1), 301);
        x.rebate(0, 2, 1);
        Check.due("25: rounded up", x.whole(1), 298);
        x.most(0, 1);
        Check.due("25: its most", x.whole(1), 198 + 110);
        x.most(1, 0);
        Check.due("25: one left, the least value", x.whole(1), 100);
        Check.due("25: one lot", x.whole(0), 1);
        x.most(0, 0);
        Check.due("25: none", x.whole(0), 0);
        Check.due("25: of no value", x.whole(1), 0);
        x.most(0, 6);
        Check.formula(x, "1/(p-200)");
        Check.due("25: broken ones are not in order", x.whole(0), 1);
        x.most(1, 6);
        Check.formula(x, "q");
        x.rebate(0, 1, 0);
        x.rebate(0, 2, 0);
        x.rebate(1, 1, 50);
        Check.due("25: another bidder's rebate", x.whole(1), 55 + 200);
        BidsJudged y = new BidsJudged();
        y.lots(6);
        y.set(0, 1);
        y.set(1, 100);
        y.rate(1, 100000);
        for (int lot = 0; lot < 6; lot++) {
            y.bid(7, lot, 1, 0, 0, 0, 0, 999999, 99999);
        }
        Make.close(y);
        Check.due("25: the greatest value", y.whole(1), 659998800);
    }

    private static void wholeTies() {
        BidsJudged x = new BidsJudged();
        x.lots(2);
        for (int lot = 0; lot < 2; lot++) {
            Make.bid(x, 4, lot, 100);
            Make.bid(x, 5, lot, 100);
        }
        Make.close(x);
        Check.due("25: like ones, lot 0", x.winner(0), 4);
        x.most(4, 1);
        Check.due("25: the first lot to the least", x.winner(0), 4);
        Check.due("25: the second to the other", x.winner(1), 5);
        x.note(0, 5, 0, 50);
        Check.due("25: places go before numbers", x.winner(0), 5);
        Check.due("25: and the other lot", x.winner(1), 4);
        x.most(5, 0);
        Check.due("25: by place", x.winner(1), 4);
        Check.due("25: none behind", x.winner(0), -9);
        BidsJudged y = new BidsJudged();
        y.lots(2);
        Make.bid(y, 3, 0, 100);
        Make.bid(y, 3, 1, 100);
        Make.close(y);
        y.most(3, 1);
        Check.due("25: none behind all", y.winner(0), 3);
        Check.due("25: and none", y.winner(1), -9);
    }

    private static void winner() {
        BidsJudged x = Make.open(50, 40);
        Check.due("26: lot before state", x.winner(1), -1);
        Check.due("26: lot -1", x.winner(-1), -1);
        Check.due("26: open", x.winner(0), -3);
        Make.close(x);
        x.note(0, 0, 0, 99);
        Check.due("26: the least value, not the first", x.winner(0), 1);
        x.out(1, 0, true);
        Check.due("26: of those that stand", x.winner(0), 0);
        x.out(0, 0, true);
        Check.due("26: nobody", x.winner(0), -9);
    }

    private static void award() {
        BidsJudged x = Make.open(50, 40);
        Check.due("27: way 2", x.award(2), -2);
        Check.due("27: way -1", x.award(-1), -2);
        Check.due("27: open", x.award(0), -3);
        Make.close(x);
        Check.due("27: lots given", x.award(1), 1);
        Check.due("27: it is awarded", x.award(1), -3);
        Check.due("27: count(6)", x.count(6), 1);
        BidsJudged y = new BidsJudged();
        Make.close(y);
        Check.due("27: none given", y.award(0), 0);
        Check.due("27: awarded all the same", y.count(6), 1);
    }

    private static void awarded() {
        BidsJudged x = Make.open(50, 40);
        Make.close(x);
        Check.due("28: lot 1", x.awarded(1), -1);
        Check.due("28: not awarded", x.awarded(0), -3);
        x.award(0);
        Check.due("28: who", x.awarded(0), 1);
        x.out(1, 0, true);
        Check.due("28: as it was told", x.awarded(0), 1);
        Check.due("28: not as it is now", x.winner(0), 0);
        BidsJudged y = new BidsJudged();
        Make.close(y);
        y.award(0);
        Check.due("28: nobody", y.awarded(0), -9);
    }

    private static void challenge() {
        BidsJudged x = Make.open(50, 40);
        Make.close(x);
        Check.due("29: lot 1", x.challenge(1, 3), -1);
        Check.due("29: stage 3", x.challenge(0, 3), -2);
        Check.due("29: stage -1", x.challenge(0, -1), -2);
        Check.due("29: not awarded", x.challenge(0, 0), -3);
        x.award(1);
        Check.due("29: the first", x.challenge(0, 0), 0);
        Check.due("29: it holds", x.count(8), 1);
        x.time(13 * 1440);
        Check.due("29: the last minute", x.challenge(0, 1), 1);
        x.time(1);
        Check.due("29: over", x.challenge(0, 1), -3);
        x.judge(0, false);
        x.judge(1, false);
        x.sign();
        Check.due("29: signed", x.challenge(0, 1), -3);
        BidsJudged y = Make.open(50, 40);
        Make.close(y);
        y.award(0);
        y.time(10 * 1440);
        Check.due("29: at once, the last minute", y.challenge(0, 2), 0);
        y.time(1);
        Check.due("29: at once, over", y.challenge(0, 2), -3);
    }

    private static void challengesHave20() {
        BidsJudged x = Make.open(50, 40);
        Make.close(x);
        x.award(0);
        for (int i = 0; i < 20; i++) {
            Check.due("29: number " + i, x.challenge(0, 0), i);
        }
        Check.due("29: there are 20", x.challenge(0, 0), -6);
        Check.due("29: 20 hold", x.count(8), 20);
        x.judge(0, true);
        Check.due("29: awarded no more", x.challenge(0, 0), -3);
        x.award(0);
        Check.due("29: there are 20 still", x.challenge(0, 0), -6);
    }

    private static void judge() {
        BidsJudged x = Make.open(50, 40);
        Make.close(x);
        Check.due("30: none", x.judge(0, true), -1);
        x.award(0);
        x.challenge(0, 0);
        x.challenge(0, 0);
        Check.due("30: -1", x.judge(-1, true), -1);
        Check.due("30: 2", x.judge(2, true), -1);
        Check.due("30: not right", x.judge(0, false), 1);
        Check.due("30: it was", x.judge(0, true), -3);
        Check.due("30: awarded still", x.count(6), 1);
        Check.due("30: one holds", x.count(8), 1);
        x.time(20000);
        Check.due("30: behind standstill", x.judge(1, true), 1);
        Check.due("30: awarded no more", x.count(6), 0);
        x.award(0);
        x.challenge(0, 1);
        x.challenge(0, 1);
        x.judge(2, true);
        Check.due("30: other holds no more", x.judge(3, true), -3);
        Check.due("30: none holds", x.count(8), 0);
        x.award(0);
        Check.due("30: nor when awarded anew", x.judge(3, false), -3);
        Check.due("30: none holds then", x.count(8), 0);
    }

    private static BidsJudged challenged(int stage) {
        BidsJudged x = new BidsJudged();
        x.lots(2);
        x.set(2, 100);
        Make.bid(x, 0, 0, 30);
        Make.bid(x, 1, 0, 50);
        Make.bid(x, 0, 1, 50);
        Make.bid(x, 1, 1, 30);
        x.ask(0, 0, 3);
        x.ask(1, 1, 3);
        Make.close(x);
        x.note(0, 1, 0, 10);
        x.note(0, 0, 0, 30);
        x.note(5, 1, 0, 10);
        x.note(0, 0, 1, 20);
        x.time(8);
        Make.bid(x, 2, 0, 50);
        x.out(1, 0, true);
        x.out(0, 1, true);
        x.out(3, 0, true);
        Check.formula(x, "p");
        x.award(0);
        x.challenge(0, stage);
        Check.due("30: right", x.judge(0, true), 1);
        Check.due("30: awarded no more", x.awarded(0), -3);
        return x;
    }

    private static void judgeRight() {
        BidsJudged x = challenged(0);
        Check.due("30: notes stay at stage 0", x.quality(1, 0, 0), 10);
        Check.due("30: outs stay at stage 0", x.count(3), 0);
        x.out(1, 0, false);
        Check.due("30: formula is q at stage 0", x.points(1, 0, 0), 10);
        x = challenged(1);
        Check.due("30: notes go at stage 1", x.quality(1, 0, 0), 0);
        Check.due("30: all of them", x.quality(0, 0, 0), 0);
        Check.due("30: the other lot's stay", x.quality(0, 1, 0), 20);
        Check.due("30: outs stay at stage 1", x.count(3), 0);
        x.out(1, 0, false);
        Check.due("30: formula stays at stage 1", x.points(1, 0, 0), 50);
        Check.due("30: a note anew", x.note(0, 1, 0, 7), -9);
        x = challenged(2);
        Check.due("30: notes go at stage 2", x.quality(1, 0, 0), 0);
        Check.due("30: the other lot's stay then", x.quality(0, 1, 0), 20);
        Check.due("30: outs go at stage 2", x.count(3), 2);
        Check.due("30: asked no more", x.answer(0, 0), -3);
        Check.due("30: formula stays at stage 2", x.points(1, 0, 0), 50);
        Check.due("30: a bidder without a bid stays out", x.out(3, 0, true), 0);
    }

    private static void sign() {
        BidsJudged x = Make.open(50, 40);
        Make.close(x);
        Check.due("31: not awarded", x.sign(), -3);
        x.award(0);
        Check.due("31: standstill", x.sign(), -3);
        x.challenge(0, 0);
        x.time(10 * 1440);
        Check.due("31: its last minute", x.sign(), -3);
        x.time(1);
        Check.due("31: one holds", x.sign(), -3);
        x.judge(0, false);
        Check.due("31: signed", x.sign(), 1);
        Check.due("31: it is", x.sign(), -3);
        Check.due("31: count(7)", x.count(7), 1);
        Check.due("31: awarded still", x.award(0), -3);
        BidsJudged y = Make.open(50, 40);
        Make.close(y);
        y.award(1);
        y.time(13 * 1440);
        Check.due("31: by letter, its last minute", y.sign(), -3);
        y.time(1);
        Check.due("31: by letter", y.sign(), 1);
    }

    private static void change() {
        BidsJudged x = new BidsJudged();
        x.lots(3);
        Make.bid(x, 0, 0, 101);
        Make.bid(x, 0, 1, 30);
        x.rebate(0, 2, 50);
        Make.close(x);
        Check.due("32: lot 3", x.change(3, 1), -1);
        Check.due("32: not awarded", x.change(0, 0), -3);
        x.award(0);
        Check.due("32: not signed", x.change(0, 1), -3);
        x.time(14401);
        x.sign();
        Check.due("32: nobody has it", x.change(2, 0), -3);
        Check.due("32: 0", x.change(0, 0), -4);
        Check.due("32: 1000000", x.change(0, 1000000), -6);
        Check.due("32: beyond", x.change(0, 51), -9);
        Check.due("32: one", x.change(0, 20), 20);
        Check.due("32: together", x.change(0, 30), 50);
        Check.due("32: beyond together", x.change(0, 1), -9);
        Check.due("32: each lot", x.change(1, 15), 15);
        x.set(3, 100);
        Check.due("32: more of the law", x.change(0, 51), 101);
        x.set(3, 0);
        Check.due("32: none of it", x.change(1, 1), -9);
        x.set(3, 100);
        x.set(0, 1);
        Check.due("32: of the price as awarded", x.change(0, 1), -9);
        Check.due("32: greatest sum", x.change(0, 999999), -9);
    }
}
