import java.util.ArrayList;
import java.util.List;

/**
 * The paragraph 'REFUSALS' and promise 40: of two refusals that both fit the one told first is answered, nothing
 * changes but how many there were, and each is counted once. Each refused call is made on one of two objects with
 * the same calls behind them; all that can be asked of the two must then be the same but for that one count.
 */
public final class RefusalsTest {
    private static final long REFUSED = 4000000000000000000L;
    private static final int NO_REFUSAL = 0;

    /** Calls that bring a new object into a state. */
    private interface State {
        void bring(BidsJudged x);
    }

    private interface Call {
        long on(BidsJudged x);
    }

    public static void main(String[] args) {
        bidsInOrder();
        notesInOrder();
        formulasInOrder();
        gainInOrder();
        turnedInOrder();
        asksInOrder();
        wholeInOrder();
        awardsInOrder();
        changesInOrder();
        ringsInOrder();
        frameworkInOrder();
        noRefusals();
        longs();
        counts();
        otherCounts();
        Check.end("RefusalsTest");
    }

    private static void bring(BidsJudged x, boolean closed) {
        x.lots(2);
        x.set(2, 60);
        x.rate(1, 1500);
        Make.bid(x, 0, 0, 50);
        Make.bid(x, 1, 0, 100);
        Make.bid(x, 2, 0, 120);
        Make.bid(x, 0, 1, 70);
        Make.bid(x, 3, 1, 80);
        x.ask(0, 0, 400);
        x.out(2, 0, true);
        x.bar(1, 3, true);
        x.most(1, 4);
        x.rebate(0, 2, 7);
        x.join(2, 30);
        x.join(4, 20);
        x.join(1, 25);
        x.call(4);
        x.call(5);
        Check.formula(x, "1/(p-100)");
        Check.feed(x, "p+");
        x.time(5);
        x.closing(7);
        if (closed) {
            x.time(3);
            x.note(0, 0, 0, 60);
            x.note(1, 1, 0, 70);
            x.note(2, 3, 1, 80);
        }
    }

    private static void open(BidsJudged x) {
        bring(x, false);
    }

    private static void closed(BidsJudged x) {
        bring(x, true);
    }

    private static void awarded(BidsJudged x) {
        closed(x);
        x.award(0);
        x.challenge(0, 1);
        x.challenge(1, 0);
        x.judge(0, false);
    }

    private static void signed(BidsJudged x) {
        awarded(x);
        x.judge(1, false);
        x.time(14401);
        x.sign();
        x.change(1, 20);
    }

    private static void untold(BidsJudged x) {
        Make.bid(x, 0, 0, 50);
    }

    /** Some 350 calls: all that can be asked, and then all whose answer tells what was there before. */
    private static List<Long> ask(BidsJudged x) {
        List<Long> all = new ArrayList<>();
        for (int what = 11; what <= 17; what++) {
            all.add((long) x.count(what));
        }
        for (int what = 0; what <= 9; what++) {
            all.add((long) x.count(what));
        }
        for (int at = 0; at < 8; at++) {
            askBid(x, at / 2, at % 2, all);
        }
        for (int i = 0; i < 8; i++) {
            all.add((long) x.order(i % 2, i / 2));
            all.add((long) x.room(i));
            all.add((long) x.most(i, 0));
        }
        for (int lot = 0; lot < 2; lot++) {
            all.add((long) x.winner(lot));
            all.add((long) x.awarded(lot));
            all.add((long) x.change(lot, 1));
        }
        askWhatWas(x, all);
        return all;
    }

    private static void askBid(BidsJudged x, int bidder, int lot, List<Long> all) {
        all.add((long) x.price(bidder, lot));
        all.add((long) x.quality(bidder, lot, 0));
        all.add(x.points(bidder, lot, 0));
        all.add(x.points(bidder, lot, 1));
        all.add((long) x.low(bidder, lot));
        all.add(x.likeness(lot, bidder, 3 - bidder));
    }

    private static void askWhatWas(BidsJudged x, List<Long> all) {
        for (int i = 0; i < 48; i++) {
            all.add((long) x.rebate(i / 6, 1 + i % 6, 0));
            all.add((long) x.note(i / 8, i / 2 % 4, i % 2, 1));
            all.add((long) x.bar(i / 8, i % 8, true));
        }
        for (int i = 0; i < 8; i++) {
            all.add((long) x.answer(i / 2, i % 2));
            all.add((long) x.out(i / 2, i % 2, true));
            all.add((long) x.withdraw(i / 2, i % 2));
        }
        for (int i = 0; i < 4; i++) {
            all.add((long) x.set(i, 1));
            all.add((long) x.rate(i, 1));
            all.add((long) x.judge(i, false));
        }
        all.add((long) x.decline());
        all.add((long) x.call(3));
        all.add((long) x.join(7, 9));
        all.add((long) x.sign());
        all.add((long) x.challenge(0, 0));
        all.add((long) x.closing(999999));
        all.add((long) x.feed(1, 'k'));
        all.add((long) x.formula());
        all.add((long) x.time(1));
        all.add((long) x.count(5));
    }

    private static void refused(String name, State state, Call call, int want) {
        answered(name, state, call, want, want);
    }

    private static void refusedLong(String name, State state, Call call, int want) {
        answered(name, state, call, REFUSED - want, want);
    }

    private static void answered(String name, State state, Call call, long want, int refusal) {
        BidsJudged x = new BidsJudged();
        BidsJudged twin = new BidsJudged();
        state.bring(x);
        state.bring(twin);
        Check.due(name, call.on(x), want);
        List<Long> got = ask(x);
        List<Long> due = ask(twin);
        for (int i = 0; i < due.size(); i++) {
            int more = refusal != NO_REFUSAL && i == -refusal - 1 ? 1 : 0;
            Check.due(name + ": what was asked then, number " + i, got.get(i), due.get(i) + more);
        }
    }

    private static void bidsInOrder() {
        Check.says("REFUSALS (the call answers the number, the first that fits in the order in which it tells them;"
            + " nothing changes but how many there were)");
        refused("time: -4", RefusalsTest::open, x -> x.time(0), -4);
        refused("time: -6", RefusalsTest::open, x -> x.time(999995), -6);
        refused("rate: -1 and -3", RefusalsTest::closed, x -> x.rate(0, 5), -1);
        refused("rate: -1 and -4", RefusalsTest::open, x -> x.rate(4, 0), -1);
        refused("rate: -1 and -6", RefusalsTest::open, x -> x.rate(0, 100001), -1);
        refused("rate: -3", RefusalsTest::closed, x -> x.rate(1, 5), -3);
        refused("rate: -3 and -4", RefusalsTest::closed, x -> x.rate(1, 0), -3);
        refused("rate: -3 and -6", RefusalsTest::closed, x -> x.rate(1, 100001), -3);
        refused("rate: -4", RefusalsTest::open, x -> x.rate(1, 0), -4);
        refused("rate: -6", RefusalsTest::open, x -> x.rate(1, 100001), -6);
        refused("lots: -3", RefusalsTest::closed, x -> x.lots(1), -3);
        refused("lots: -3 and -4", RefusalsTest::closed, x -> x.lots(0), -3);
        refused("lots: -3 and -6", RefusalsTest::closed, x -> x.lots(7), -3);
        refused("lots: -4", RefusalsTest::open, x -> x.lots(0), -4);
        refused("lots: -6", RefusalsTest::open, x -> x.lots(7), -6);
        refused("closing: -3", RefusalsTest::open, x -> x.closing(9), -3);
        refused("closing: -3 and -4", RefusalsTest::open, x -> x.closing(4), -3);
        refused("closing: -3 and -6", RefusalsTest::open, x -> x.closing(1000000), -3);
        refused("closing: -4", RefusalsTest::untold, x -> x.closing(-1), -4);
        refused("closing: -6", RefusalsTest::untold, x -> x.closing(1000000), -6);
        refused("bid: -1 and -4", RefusalsTest::open, x -> x.bid(8, 0, 0, -1, 1, 1, 1, 3, 0), -1);
        refused("bid: -1 and -6", RefusalsTest::open, x -> x.bid(0, 2, 0, 1, 1, 1, 1, 1000000, 0), -1);
        refused("bid: -1 of the money and -4", RefusalsTest::open, x -> x.bid(0, 0, 4, 1, 1, 1, 1, 4, -1), -1);
        refused("bid: -4 and -6", RefusalsTest::open, x -> x.bid(0, 0, 0, 100000, 1, 1, 1, 3, -1), -4);
        refused("bid: -4 of the sum and -6", RefusalsTest::open, x -> x.bid(0, 0, 0, 1, 1, 1, 1, -1, 100000), -4);
        refused("bid: -6", RefusalsTest::open, x -> x.bid(0, 0, 0, 1, 1, 1, 1, 4, 100000), -6);
        refused("bid: -1, late", RefusalsTest::closed, x -> x.bid(8, 0, 0, 1, 1, 1, 1, 4, 0), -1);
        refused("bid: -4, late", RefusalsTest::closed, x -> x.bid(0, 0, 0, 1, 1, 1, -1, 4, 0), -4);
        refused("bid: -6, late", RefusalsTest::closed, x -> x.bid(0, 0, 0, 1, 1, 1, 1, 1000000, 0), -6);
        refused("withdraw: -1", RefusalsTest::open, x -> x.withdraw(8, 0), -1);
        refused("withdraw: -5", RefusalsTest::open, x -> x.withdraw(3, 0), -5);
        refused("withdraw: -5, late", RefusalsTest::closed, x -> x.withdraw(3, 0), -5);
        refused("set: -2 and -4", RefusalsTest::open, x -> x.set(4, -1), -2);
        refused("set: -2 and -6", RefusalsTest::open, x -> x.set(-1, 101), -2);
        refused("set: -4", RefusalsTest::open, x -> x.set(3, -1), -4);
        refused("set: -6", RefusalsTest::open, x -> x.set(0, 3), -6);
        refused("price: -1", RefusalsTest::open, x -> x.price(0, 2), -1);
        refused("price: -5", RefusalsTest::open, x -> x.price(3, 0), -5);
    }

    private static void notesInOrder() {
        Check.says("-1 NOBODY: no such BIDDER, LOT, MONEY, SCORER, ITEM, CHALLENGE.");
        refused("note: -1 and -5", RefusalsTest::closed, x -> x.note(6, 3, 0, 5), -1);
        refused("note: -1 and -3", RefusalsTest::open, x -> x.note(6, 0, 0, 5), -1);
        refused("note: -1 and -4", RefusalsTest::closed, x -> x.note(0, 8, 0, -1), -1);
        refused("note: -1 and -6", RefusalsTest::closed, x -> x.note(0, 0, 2, 101), -1);
        refused("note: -5 and -3", RefusalsTest::open, x -> x.note(0, 3, 0, 5), -5);
        refused("note: -5 and -4", RefusalsTest::closed, x -> x.note(0, 3, 0, -1), -5);
        refused("note: -5 of one that is out and -6", RefusalsTest::closed, x -> x.note(0, 2, 0, 101), -5);
        refused("note: -3 and -4", RefusalsTest::open, x -> x.note(0, 0, 0, -1), -3);
        refused("note: -3 and -6", RefusalsTest::open, x -> x.note(0, 0, 0, 101), -3);
        refused("note: -4", RefusalsTest::closed, x -> x.note(0, 0, 0, -1), -4);
        refused("note: -6", RefusalsTest::closed, x -> x.note(0, 0, 0, 101), -6);
        refused("bar: -1 of the scorer", RefusalsTest::closed, x -> x.bar(6, 0, true), -1);
        refused("bar: -1 of the bidder", RefusalsTest::closed, x -> x.bar(0, 8, true), -1);
        refused("quality: -1 and -2", RefusalsTest::closed, x -> x.quality(8, 0, 2), -1);
        refused("quality: -1 of the lot and -2", RefusalsTest::closed, x -> x.quality(0, 2, 2), -1);
        refused("quality: -2 and -5", RefusalsTest::closed, x -> x.quality(3, 0, 2), -2);
        refused("quality: -5", RefusalsTest::closed, x -> x.quality(3, 0, 0), -5);
    }

    private static void formulasInOrder() {
        Check.says("-7 BROKEN. Longs that are fractions: 4000000000000000000 less them.");
        refused("feed: -4", RefusalsTest::open, x -> x.feed(0, 0x7070), -4);
        refused("feed: -6", RefusalsTest::open, x -> x.feed(9, 0x7070), -6);
        refused("feed: -6 above 80", RefusalsTest::tapeOf78, x -> x.feed(3, 0x7070), -6);
        refusedLong("points: -1 and -2", RefusalsTest::closed, x -> x.points(8, 0, 2), -1);
        refusedLong("points: -2 and -5", RefusalsTest::closed, x -> x.points(3, 0, 2), -2);
        refusedLong("points: -2 and -7", RefusalsTest::closed, x -> x.points(1, 0, -1), -2);
        refusedLong("points: -5", RefusalsTest::closed, x -> x.points(2, 0, 0), -5);
        refusedLong("points: -5 and -7", RefusalsTest::brokenAll, x -> x.points(2, 0, 0), -5);
        refusedLong("points: -7", RefusalsTest::closed, x -> x.points(1, 0, 0), -7);
        refused("order: -1", RefusalsTest::closed, x -> x.order(2, 0), -1);
        refused("order: -1 and none such", RefusalsTest::closed, x -> x.order(-1, 9), -1);
    }

    private static void tapeOf78(BidsJudged x) {
        for (int i = 0; i < 13; i++) {
            x.feed(6, 0x2B702B702B70L);
        }
    }

    private static void brokenAll(BidsJudged x) {
        closed(x);
        x.formula();
        Check.formula(x, "1/0");
    }

    private static void gainInOrder() {
        Check.says("GAIN by d (1 .. 99999): part 0, 1. Refused as told: -1; -2; -5; -4; -6; -7 (either way).");
        refusedLong("-1 and -2", RefusalsTest::closed, x -> x.gain(8, 0, 1, 2), -1);
        refusedLong("-1 and -4", RefusalsTest::closed, x -> x.gain(0, 2, 0, 0), -1);
        refusedLong("-1 and -6", RefusalsTest::closed, x -> x.gain(0, 2, 100000, 0), -1);
        refusedLong("-2 and -5", RefusalsTest::closed, x -> x.gain(3, 0, 1, 2), -2);
        refusedLong("-2 and -4", RefusalsTest::closed, x -> x.gain(0, 0, 0, 2), -2);
        refusedLong("-2 and -6", RefusalsTest::closed, x -> x.gain(0, 0, 100000, 2), -2);
        refusedLong("-2 and -7", RefusalsTest::closed, x -> x.gain(1, 0, 1, 2), -2);
        refusedLong("-5 and -4", RefusalsTest::closed, x -> x.gain(3, 0, 0, 0), -5);
        refusedLong("-5 of one that is out and -6", RefusalsTest::closed, x -> x.gain(2, 0, 100000, 0), -5);
        refusedLong("-5 and -7", RefusalsTest::brokenAll, x -> x.gain(2, 0, 1, 0), -5);
        refusedLong("-4 and -7", RefusalsTest::closed, x -> x.gain(1, 0, 0, 0), -4);
        refusedLong("-6 and -7", RefusalsTest::closed, x -> x.gain(1, 0, 100000, 0), -6);
        refusedLong("-7", RefusalsTest::closed, x -> x.gain(1, 0, 1, 0), -7);
    }

    private static void turnedInOrder() {
        Check.says("-1 (one twice, too); -5; -7; -3 i is not ahead of j.");
        refused("-1 and -5", RefusalsTest::closed, x -> x.turned(0, 8, 3), -1);
        refused("-1, one twice, and -5", RefusalsTest::closed, x -> x.turned(0, 3, 3), -1);
        refused("-1, one twice, and -7", RefusalsTest::closed, x -> x.turned(0, 1, 1), -1);
        refused("-1, one twice, and -3", RefusalsTest::closed, x -> x.turned(0, 0, 0), -1);
        refused("-5 and -7", RefusalsTest::closed, x -> x.turned(0, 1, 3), -5);
        refused("-5 of one that is out and -7", RefusalsTest::closed, x -> x.turned(0, 2, 1), -5);
        refused("-7 of j", RefusalsTest::closed, x -> x.turned(0, 0, 1), -7);
        refused("-7 of i, and -3", RefusalsTest::closed, x -> x.turned(0, 1, 0), -7);
        refused("-3", RefusalsTest::closed, x -> x.turned(1, 3, 0), -3);
    }

    private static void asksInOrder() {
        Check.says("-5 MISSING: a BID that is not there (or doesn't STAND, where it must).");
        refused("low: -1", RefusalsTest::open, x -> x.low(8, 0), -1);
        refused("low: -5", RefusalsTest::open, x -> x.low(2, 0), -5);
        refused("ask: -1 and -4", RefusalsTest::open, x -> x.ask(8, 0, 0), -1);
        refused("ask: -1 and -6", RefusalsTest::open, x -> x.ask(0, 2, 1000000), -1);
        refused("ask: -5 and -4", RefusalsTest::open, x -> x.ask(3, 0, 0), -5);
        refused("ask: -5 of one that is out and -6", RefusalsTest::open, x -> x.ask(2, 0, 1000000), -5);
        refused("ask: -3 not too low and -4", RefusalsTest::open, x -> x.ask(1, 0, 0), -3);
        refused("ask: -3 not too low and -6", RefusalsTest::open, x -> x.ask(1, 0, 1000000), -3);
        refused("ask: -3 asked and -4", RefusalsTest::open, x -> x.ask(0, 0, 5), -3);
        refused("ask: -3 asked and -6", RefusalsTest::open, x -> x.ask(0, 0, 1000000), -3);
        refused("ask: -3 asked", RefusalsTest::open, x -> x.ask(0, 0, 6), -3);
        refused("ask: -4", RefusalsTest::tooLow, x -> x.ask(0, 0, 0), -4);
        refused("ask: -6", RefusalsTest::tooLow, x -> x.ask(0, 0, 1000000), -6);
        refused("answer: -1", RefusalsTest::open, x -> x.answer(8, 0), -1);
        refused("answer: -5 and -3", RefusalsTest::open, x -> x.answer(3, 0), -5);
        refused("answer: -5 of one that is out", RefusalsTest::lapsed, x -> x.answer(0, 0), -5);
        refused("answer: -3", RefusalsTest::open, x -> x.answer(1, 0), -3);
        refused("out: -1 of the bidder", RefusalsTest::open, x -> x.out(8, 0, true), -1);
        refused("out: -1 of the lot", RefusalsTest::open, x -> x.out(2, 2, false), -1);
    }

    private static void tooLow(BidsJudged x) {
        open(x);
        x.answer(0, 0);
    }

    private static void lapsed(BidsJudged x) {
        open(x);
        x.time(396);
    }

    private static void wholeInOrder() {
        Check.says("-2 OTHER: what, way, STAGE. -3 STATE: it is not as told.");
        refused("most: -1 and -4", RefusalsTest::open, x -> x.most(8, -1), -1);
        refused("most: -1 and -6", RefusalsTest::open, x -> x.most(-1, 7), -1);
        refused("most: -4", RefusalsTest::open, x -> x.most(1, -1), -4);
        refused("most: -6", RefusalsTest::open, x -> x.most(1, 7), -6);
        refused("rebate: -1 and -4", RefusalsTest::open, x -> x.rebate(8, 0, 1), -1);
        refused("rebate: -1 and -6", RefusalsTest::open, x -> x.rebate(8, 1, 51), -1);
        refused("rebate: -4 of m and -6 of v", RefusalsTest::open, x -> x.rebate(0, 0, 51), -4);
        refused("rebate: -4 of v and -6 of m", RefusalsTest::open, x -> x.rebate(0, 7, -1), -4);
        refused("rebate: -6 of m", RefusalsTest::open, x -> x.rebate(0, 7, 1), -6);
        refused("rebate: -6 of v", RefusalsTest::open, x -> x.rebate(0, 2, 51), -6);
        refused("whole: -2 and -3", RefusalsTest::open, x -> x.whole(2), -2);
        refused("whole: -2", RefusalsTest::closed, x -> x.whole(-1), -2);
        refused("whole: -3", RefusalsTest::open, x -> x.whole(0), -3);
        refused("winner: -1 and -3", RefusalsTest::open, x -> x.winner(2), -1);
        refused("winner: -3", RefusalsTest::open, x -> x.winner(0), -3);
    }

    private static void awardsInOrder() {
        Check.says("-3 STATE: it is not as told.");
        refused("award: -2 and -3, open", RefusalsTest::open, x -> x.award(2), -2);
        refused("award: -2 and -3, awarded", RefusalsTest::awarded, x -> x.award(-1), -2);
        refused("award: -3, open", RefusalsTest::open, x -> x.award(0), -3);
        refused("award: -3, awarded", RefusalsTest::awarded, x -> x.award(1), -3);
        refused("award: -3, signed", RefusalsTest::signed, x -> x.award(1), -3);
        refused("awarded: -1 and -3", RefusalsTest::closed, x -> x.awarded(2), -1);
        refused("awarded: -3", RefusalsTest::closed, x -> x.awarded(0), -3);
        refused("challenge: -1 and -2", RefusalsTest::awarded, x -> x.challenge(2, 3), -1);
        refused("challenge: -1 and -3", RefusalsTest::closed, x -> x.challenge(2, 0), -1);
        refused("challenge: -1 and -6", RefusalsTest::full, x -> x.challenge(2, 0), -1);
        refused("challenge: -2 and -3", RefusalsTest::closed, x -> x.challenge(0, 3), -2);
        refused("challenge: -2 and -6", RefusalsTest::full, x -> x.challenge(0, -1), -2);
        refused("challenge: -3, not awarded", RefusalsTest::closed, x -> x.challenge(0, 0), -3);
        refused("challenge: -3, signed", RefusalsTest::signed, x -> x.challenge(0, 0), -3);
        refused("challenge: -3 and -6", RefusalsTest::fullAndOver, x -> x.challenge(0, 0), -3);
        refused("challenge: -6", RefusalsTest::full, x -> x.challenge(0, 0), -6);
        refused("judge: -1", RefusalsTest::awarded, x -> x.judge(2, true), -1);
        refused("judge: -1, below", RefusalsTest::awarded, x -> x.judge(-1, true), -1);
        refused("judge: -3", RefusalsTest::awarded, x -> x.judge(0, true), -3);
        refused("sign: -3, not awarded", RefusalsTest::closed, x -> x.sign(), -3);
        refused("sign: -3, standstill", RefusalsTest::awarded, x -> x.sign(), -3);
        refused("sign: -3, one holds", RefusalsTest::fullAndOver, x -> x.sign(), -3);
        refused("sign: -3, signed", RefusalsTest::signed, x -> x.sign(), -3);
    }

    private static void full(BidsJudged x) {
        awarded(x);
        for (int i = 2; i < 20; i++) {
            x.challenge(0, 0);
        }
    }

    private static void fullAndOver(BidsJudged x) {
        full(x);
        x.time(14401);
    }

    private static void changesInOrder() {
        Check.says("-1; -3 not SIGNED, nobody has it; -4; -6.");
        refused("-1 and -3", RefusalsTest::awarded, x -> x.change(2, 1), -1);
        refused("-1 and -4", RefusalsTest::signed, x -> x.change(2, 0), -1);
        refused("-1 and -6", RefusalsTest::signed, x -> x.change(-1, 1000000), -1);
        refused("-3 and -4", RefusalsTest::awarded, x -> x.change(1, 0), -3);
        refused("-3 and -6", RefusalsTest::awarded, x -> x.change(1, 1000000), -3);
        refused("-3, nobody has it, and -4", RefusalsTest::givenToNobody, x -> x.change(0, 0), -3);
        refused("-3, nobody has it, and -6", RefusalsTest::givenToNobody, x -> x.change(0, 1000000), -3);
        refused("-4", RefusalsTest::signed, x -> x.change(1, 0), -4);
        refused("-6", RefusalsTest::signed, x -> x.change(1, 1000000), -6);
    }

    private static void givenToNobody(BidsJudged x) {
        closed(x);
        x.out(0, 0, true);
        x.out(1, 0, true);
        x.award(0);
        x.time(14401);
        x.sign();
    }

    private static void ringsInOrder() {
        Check.says("Refused as told: -1 (one twice, too); -5.");
        refusedLong("likeness: -1 and -5", RefusalsTest::open, x -> x.likeness(0, 3, 8), -1);
        refusedLong("likeness: -1, one twice, and -5", RefusalsTest::open, x -> x.likeness(0, 3, 3), -1);
        refusedLong("likeness: -5", RefusalsTest::open, x -> x.likeness(0, 0, 3), -5);
        refused("chance: -1 and -5", RefusalsTest::open, x -> x.chance(2, 0, 3), -1);
        refused("chance: -1, one twice", RefusalsTest::open, x -> x.chance(0, 0, 0), -1);
        refused("chance: -5", RefusalsTest::open, x -> x.chance(0, 3, 0), -5);
        refused("ring: -1", RefusalsTest::open, x -> x.ring(2, 0), -1);
        refused("ring: -5", RefusalsTest::open, x -> x.ring(0, 3), -5);
    }

    private static void frameworkInOrder() {
        Check.says("-4 BELOW: a number below the least.");
        refused("join: -1 and -4", RefusalsTest::open, x -> x.join(8, 0), -1);
        refused("join: -1 and -6", RefusalsTest::open, x -> x.join(8, 1000), -1);
        refused("join: -3", RefusalsTest::open, x -> x.join(2, 5), -3);
        refused("join: -3 and -4", RefusalsTest::open, x -> x.join(2, 0), -3);
        refused("join: -3 and -6", RefusalsTest::open, x -> x.join(2, 1000), -3);
        refused("join: -4", RefusalsTest::open, x -> x.join(7, 0), -4);
        Check.says("-6 ROOM: a number above the greatest, no room.");
        refused("join: -6", RefusalsTest::open, x -> x.join(7, 1000), -6);
        refused("call: -4", RefusalsTest::open, x -> x.call(0), -4);
        refused("call: -6", RefusalsTest::open, x -> x.call(1000), -6);
        refused("decline: -3, there is none", RefusalsTest::untold, x -> x.decline(), -3);
        refused("decline: -3, it went to none", RefusalsTest::calledInVain, x -> x.decline(), -3);
        refused("room: -1", RefusalsTest::open, x -> x.room(8), -1);
        refused("room: -3", RefusalsTest::open, x -> x.room(7), -3);
    }

    private static void calledInVain(BidsJudged x) {
        open(x);
        x.call(999);
    }

    /** Answers that are no refusals: nothing is counted, and what only asks changes nothing. */
    private static void noRefusals() {
        Check.says("-9 for another what.");
        answered("count(10)", RefusalsTest::closed, x -> x.count(10), -9, NO_REFUSAL);
        answered("order, none such", RefusalsTest::closed, x -> x.order(0, 5), -9, NO_REFUSAL);
        answered("awarded, nobody", RefusalsTest::givenToNobody, x -> x.awarded(0), -9, NO_REFUSAL);
        answered("change, beyond", RefusalsTest::signed, x -> x.change(1, 999), -9, NO_REFUSAL);
        answered("turned, none", RefusalsTest::closed, x -> x.turned(1, 0, 3), -9, NO_REFUSAL);
        answered("gain", RefusalsTest::closed, x -> x.gain(0, 0, 10, 1), 300, NO_REFUSAL);
        answered("whole", RefusalsTest::closed, x -> x.whole(0), 2, NO_REFUSAL);
        answered("winner", RefusalsTest::closed, x -> x.winner(0), 0, NO_REFUSAL);
        answered("bar, it was so", RefusalsTest::closed, x -> x.bar(1, 3, true), 0, NO_REFUSAL);
        answered("out, it was so", RefusalsTest::closed, x -> x.out(2, 0, true), 0, NO_REFUSAL);
        answered("chance", RefusalsTest::closed, x -> x.chance(0, 0, 1), 6, NO_REFUSAL);
        answered("ring", RefusalsTest::closed, x -> x.ring(0, 1), 0, NO_REFUSAL);
    }

    private static void longs() {
        Check.says("Longs that are fractions: 4000000000000000000 less them.");
        BidsJudged x = Make.closed(10);
        Check.due("points -1", x.points(8, 0, 0), 4000000000000000001L);
        Check.due("points -2", x.points(0, 0, 2), 4000000000000000002L);
        Check.due("gain -4", x.gain(0, 0, 0, 0), 4000000000000000004L);
        Check.due("points -5", x.points(1, 0, 0), 4000000000000000005L);
        Check.due("gain -6", x.gain(0, 0, 100000, 0), 4000000000000000006L);
        Check.formula(x, "1/0");
        Check.due("points -7", x.points(0, 0, 0), 4000000000000000007L);
        Check.due("likeness -1", x.likeness(0, 0, 0), 4000000000000000001L);
        Check.due("likeness -5", x.likeness(0, 0, 1), 4000000000000000005L);
        int[] want = {2, 1, 0, 1, 2, 1, 1};
        for (int i = 0; i < 7; i++) {
            Check.due("counted as the others are: " + (11 + i), x.count(11 + i), want[i]);
        }
    }

    private static void counts() {
        Check.says("0 TIME, 1 LOTS, 2 BIDS that are there, 3 that STAND, 4 LATE ones, 5 1 while BIDS are OPEN, 6 1"
            + " AWARDED, 7 1 SIGNED, 8 CHALLENGES that HOLD, 9 bytes on THE TAPE, 11 .. 17 REFUSALS -1 .. -7.");
        BidsJudged x = new BidsJudged();
        x.lots(6);
        for (int at = 0; at < 48; at++) {
            Make.bid(x, at / 6, at % 6, 10);
        }
        Check.due("all bids there can be", x.count(2), 48);
        x.out(0, 0, true);
        x.out(7, 5, true);
        Check.due("those that stand", x.count(3), 46);
        Make.close(x);
        Make.bid(x, 0, 0, 10);
        x.feed(8, 0);
        x.award(0);
        x.challenge(5, 2);
        x.challenge(5, 2);
        int[] want = {1, 6, 48, 46, 1, 0, 1, 0, 2, 8};
        for (int what = 0; what <= 9; what++) {
            Check.due("count(" + what + ")", x.count(what), want[what]);
        }
        x.judge(0, false);
        x.judge(1, false);
        x.time(14401);
        x.sign();
        Check.due("signed", x.count(7), 1);
        Check.due("awarded still", x.count(6), 1);
        Check.due("none holds", x.count(8), 0);
    }

    private static void otherCounts() {
        Check.says("11 .. 17 REFUSALS -1 .. -7. -9 for another what.");
        BidsJudged x = new BidsJudged();
        int[] other = {-1, 10, 18, 19, Integer.MIN_VALUE, Integer.MAX_VALUE};
        for (int what : other) {
            Check.due("count(" + what + ")", x.count(what), -9);
        }
        for (int what = 11; what <= 17; what++) {
            Check.due("none was refused: " + what, x.count(what), 0);
        }
        for (int i = 0; i < 300; i++) {
            x.price(8, 0);
        }
        Check.due("many of one kind", x.count(11), 300);
        Check.due("none of the next", x.count(12), 0);
    }
}
