import java.util.Random;

/** Random runs of 512 calls, each answer held against the plain model of the document. */
public final class RandomRunsTest {
    private static final int RUNS = 600;
    private static final int CALLS = 512;
    private static final String SIGNS = "plhaqbkpq0123459+-*/+-*/()<>(),(";

    private static final String[] USUAL = {"60*l/p+40*q/b", "q-p/l", "50*<(p/a,1)+q", "100*(h-p)/(h-l)", "q*(k-3)",
        "q*(p-a)", "(a-p)*(k-5/2)", "q+60*l/p", ">(0,a-p)", "1/(p-l)", "1/(1999*p)", "q/b", "p*(2*b-a)", "p-a*9/10"};

    private final Random random;
    private final BidsJudged x = new BidsJudged();
    private final Model m = new Model();
    private final int bidders;
    private final int lots;
    private final int run;
    private String call = "";

    private RandomRunsTest(int run) {
        this.run = run;
        random = new Random(run);
        bidders = run % 10 == 0 ? 8 : 2 + random.nextInt(4);
        lots = run % 10 == 0 ? 3 : 1 + random.nextInt(run % 7 == 0 ? 6 : 3);
    }

    public static void main(String[] args) {
        for (int run = 0; run < RUNS; run++) {
            new RandomRunsTest(run).go();
        }
        Check.end("RandomRunsTest");
    }

    private void go() {
        due("lots " + lots, x.lots(lots), m.lots(lots));
        int closeAt = random.nextInt(3) == 0 ? 200 : 30 + random.nextInt(60);
        for (int i = 2; i < CALLS; i++) {
            if (i == closeAt) {
                int closing = m.now + random.nextInt(3);
                due("closing " + closing, x.closing(closing), m.closing(closing));
            } else if (i < closeAt && random.nextInt(3) > 0) {
                early();
            } else {
                any();
            }
        }
        for (int what = 0; what <= 17; what++) {
            due("count " + what, x.count(what), m.count(what));
        }
    }

    private void due(String name, long got, long want) {
        call = name;
        Check.due("run " + run + ": " + call, got, want);
    }

    private int upTo(int n) {
        return random.nextInt(n + 1);
    }

    /** Mostly 0 to n - 1, now and then a number outside. */
    private int pick(int n) {
        int odd = random.nextInt(60);
        if (odd == 0) {
            return -1;
        }
        if (odd == 1) {
            return n;
        }
        if (odd == 2) {
            return random.nextInt();
        }
        return random.nextInt(n);
    }

    private int bidder() {
        return random.nextInt(25) == 0 ? pick(8) : random.nextInt(bidders);
    }

    private int lot() {
        return random.nextInt(25) == 0 ? pick(6) : random.nextInt(lots);
    }

    /** Near the edges of least to greatest, or inside, or just outside. */
    private int number(int least, int greatest) {
        switch (random.nextInt(24)) {
            case 0: return least - 1;
            case 1: return greatest + 1;
            case 2: return least;
            case 3: return greatest;
            default: return least + random.nextInt(greatest - least + 1);
        }
    }

    private void early() {
        switch (random.nextInt(8)) {
            case 0: money(); break;
            case 1: setting(); break;
            case 2: pact(); break;
            default: bid(); break;
        }
    }

    private void any() {
        switch (random.nextInt(30)) {
            case 0: clock(); break;
            case 1: money(); break;
            case 2: bid(); break;
            case 3: setting(); break;
            case 4: case 5: case 6: case 7: note(); break;
            case 8: quality(); break;
            case 9: case 10: feed(); break;
            case 11: case 12: points(); break;
            case 13: order(); break;
            case 14: gain(); break;
            case 15: case 16: turned(); break;
            case 17: case 18: low(); break;
            case 19: case 20: pact(); break;
            case 21: whole(); break;
            case 22: case 23: case 24: award(); break;
            case 25: rings(); break;
            case 26: case 27: framework(); break;
            default: count(); break;
        }
    }

    private void clock() {
        int n = random.nextInt(12) == 0 ? 14000 + upTo(6000) : number(1, 4);
        due("time " + n, x.time(n), m.time(n));
    }

    private void money() {
        int money = pick(4);
        int v = random.nextInt(3) == 0 ? number(1, 100000) : 900 + upTo(200);
        if (random.nextInt(5) == 0) {
            int n = pick(lots + 1);
            due("lots " + n, x.lots(n), m.lots(n));
        } else {
            due("rate " + money + " " + v, x.rate(money, v), m.rate(money, v));
        }
        if (random.nextInt(40) == 0) {
            int t = number(0, 999999);
            due("closing " + t, x.closing(t), m.closing(t));
        }
    }

    private int itemPrice() {
        return random.nextInt(40) == 0 ? number(0, 99999) : random.nextInt(4) == 0 ? upTo(3) : 20 + upTo(12);
    }

    private void bid() {
        int b = bidder();
        int l = lot();
        if (random.nextInt(12) == 0) {
            due("withdraw " + b + " " + l, x.withdraw(b, l), m.withdraw(b, l));
            return;
        }
        int money = random.nextInt(3) == 0 ? pick(4) : 0;
        int[] v = {itemPrice(), itemPrice(), itemPrice(), itemPrice(), 0, random.nextInt(3) == 0 ? itemPrice() : 0};
        if (random.nextInt(4) == 0 && b >= 0 && b < 8 && l >= 0 && l < 6) {
            int other = random.nextInt(bidders);
            for (int i = 0; i < 4 && m.there(other, l); i++) {
                v[i] = Math.min(99999, m.bids[other][l].items[i] * (1 + random.nextInt(2)) + upTo(1));
            }
        }
        v[4] = random.nextInt(4) == 0 ? number(0, 300) : Math.max(0, v[0] + v[1] + v[2] + v[3]);
        v[4] = random.nextInt(40) == 0 ? number(0, 999999) : v[4];
        due("bid " + b + " " + l, x.bid(b, l, money, v[0], v[1], v[2], v[3], v[4], v[5]), m.bid(b, l, money, v));
        due("price " + b + " " + l, x.price(b, l), m.price(b, l));
    }

    private void setting() {
        int what = pick(4);
        int v = what == 0 ? number(0, 2) : number(0, 100);
        due("set " + what + " " + v, x.set(what, v), m.set(what, v));
    }

    private void note() {
        int s = pick(6);
        int b = bidder();
        int l = lot();
        int v = random.nextInt(3) == 0 ? number(0, 100) : 10 * upTo(5);
        boolean on = random.nextInt(4) == 0;
        if (random.nextInt(15) == 0) {
            due("bar " + s + " " + b, x.bar(s, b, on), m.bar(s, b, on));
        } else {
            due("note " + s + " " + b + " " + l, x.note(s, b, l, v), m.note(s, b, l, v));
        }
    }

    private void quality() {
        int b = bidder();
        int l = lot();
        int part = pick(2);
        due("quality " + b + " " + l, x.quality(b, l, part), m.quality(b, l, part));
    }

    private String sum(int depth) {
        String t = term(depth);
        while (random.nextInt(3) == 0) {
            t += (random.nextBoolean() ? "+" : "-") + term(depth);
        }
        return t;
    }

    private String term(int depth) {
        String t = unit(depth);
        while (random.nextInt(3) == 0) {
            t += (random.nextBoolean() ? "*" : "/") + unit(depth);
        }
        return t;
    }

    private String unit(int depth) {
        int kind = random.nextInt(depth > 7 ? 6 : 10);
        if (kind < 4) {
            return "" + "plhaqbkq".charAt(random.nextInt(8));
        }
        if (kind < 6) {
            return "" + random.nextInt(random.nextInt(4) == 0 ? 1200000 : 100);
        }
        if (kind < 8) {
            return "(" + sum(depth + 1) + ")";
        }
        return (kind == 8 ? "<(" : ">(") + sum(depth + 1) + "," + sum(depth + 1) + ")";
    }

    private String text() {
        if (random.nextInt(3) == 0) {
            return USUAL[random.nextInt(USUAL.length)];
        }
        String text = sum(random.nextInt(3) == 0 ? 0 : 4);
        for (int i = 0; i < 50 && text.length() > 80 && random.nextInt(20) > 0; i++) {
            text = sum(4);
        }
        return text.length() > 100 ? text.substring(0, 100) : text;
    }

    private void feed() {
        String text = text();
        if (random.nextInt(4) == 0) {
            int at = random.nextInt(text.length());
            char sign = random.nextInt(9) == 0 ? (char) random.nextInt(256) : SIGNS.charAt(random.nextInt(SIGNS.length()));
            text = text.substring(0, at) + sign + text.substring(at + random.nextInt(2));
        }
        if (random.nextInt(12) == 0) {
            text = text.substring(0, random.nextInt(text.length() + 1));
        }
        if (random.nextInt(12) == 0) {
            text = "(((((((((((".substring(random.nextInt(8)) + text;
        }
        for (int from = 0; from < text.length(); from += 8) {
            int n = Math.min(8, text.length() - from);
            long bytes = random.nextLong();
            for (int i = 0; i < n; i++) {
                bytes = bytes & ~(255L << 8 * i) | (text.charAt(from + i) & 255L) << 8 * i;
            }
            due("feed " + n, x.feed(n, bytes), m.feed(n, bytes));
        }
        if (random.nextInt(20) == 0) {
            int n = number(1, 8);
            due("feed " + n, x.feed(n, 0), m.feed(n, 0));
        }
        String tape = m.tape;
        due("formula " + tape, x.formula(), m.formula());
    }

    private void points() {
        int b = bidder();
        int l = lot();
        int part = pick(2);
        due("points " + b + " " + l + " by " + m.formula, x.points(b, l, part), m.points(b, l, part));
    }

    private void order() {
        int l = lot();
        for (int i = -1; i <= 8; i++) {
            due("order " + l + " " + i + " by " + m.formula, x.order(l, i), m.order(l, i));
        }
    }

    private void gain() {
        int b = bidder();
        int l = lot();
        int d = random.nextInt(3) == 0 ? number(1, 99999) : 1 + upTo(30);
        int part = pick(2);
        due("gain " + b + " " + l + " " + d + " by " + m.formula, x.gain(b, l, d, part), m.gain(b, l, d, part));
    }

    private void turned() {
        int i = bidder();
        int j = bidder();
        int l = lot();
        due("turned " + l + " " + i + " " + j + " by " + m.formula, x.turned(l, i, j), m.turned(l, i, j));
        due("turned " + l + " " + j + " " + i + " by " + m.formula, x.turned(l, j, i), m.turned(l, j, i));
    }

    private void low() {
        int b = bidder();
        int l = lot();
        due("low " + b + " " + l, x.low(b, l), m.low(b, l));
        int t = random.nextInt(6) == 0 ? number(0, 999999) : m.now + upTo(5);
        due("ask " + b + " " + l + " " + t, x.ask(b, l, t), m.ask(b, l, t));
        if (random.nextInt(2) == 0) {
            int other = bidder();
            due("answer " + other + " " + l, x.answer(other, l), m.answer(other, l));
        }
        if (random.nextInt(2) == 0) {
            boolean on = random.nextInt(4) == 0;
            int other = bidder();
            due("out " + other + " " + l + " " + on, x.out(other, l, on), m.out(other, l, on));
        }
    }

    private void pact() {
        int b = bidder();
        int v = number(0, 6);
        int rebate = number(0, 50);
        int of = number(1, 6);
        if (random.nextInt(3) == 0) {
            due("most " + b + " " + v, x.most(b, v), m.most(b, v));
        } else {
            due("rebate " + b + " " + of + " " + rebate, x.rebate(b, of, rebate), m.rebate(b, of, rebate));
        }
    }

    private void whole() {
        int what = pick(2);
        int l = lot();
        due("whole " + what, x.whole(what), m.whole(what));
        due("winner " + l, x.winner(l), m.winner(l));
    }

    private void award() {
        int l = lot();
        int stage = pick(3);
        int c = m.challenges.isEmpty() ? pick(1) : pick(m.challenges.size());
        boolean right = random.nextInt(3) == 0;
        int way = pick(2);
        int sum = random.nextInt(3) == 0 ? number(1, 999999) : 1 + upTo(20);
        switch (random.nextInt(8)) {
            case 0: case 1: due("award " + way, x.award(way), m.award(way)); break;
            case 2: due("awarded " + l, x.awarded(l), m.awarded(l)); break;
            case 3: due("challenge " + l + " " + stage, x.challenge(l, stage), m.challenge(l, stage)); break;
            case 4: due("judge " + c + " " + right, x.judge(c, right), m.judge(c, right)); break;
            case 5: due("sign", x.sign(), m.sign()); break;
            default: due("change " + l + " " + sum, x.change(l, sum), m.change(l, sum)); break;
        }
    }

    private void rings() {
        int a = bidder();
        int b = bidder();
        int l = lot();
        due("likeness " + l + " " + a + " " + b, x.likeness(l, a, b), m.likeness(l, a, b));
        due("chance " + l + " " + a + " " + b, x.chance(l, a, b), m.chance(l, a, b));
        due("ring " + l + " " + a, x.ring(l, a), m.ring(l, a));
    }

    private void framework() {
        int b = pick(8);
        int room = random.nextInt(2) == 0 ? number(1, 999) : 1 + upTo(40);
        int n = random.nextInt(4) == 0 ? number(1, 999) : 1 + upTo(15);
        switch (random.nextInt(6)) {
            case 0: due("join " + b + " " + room, x.join(b, room), m.join(b, room)); break;
            case 1: case 2: due("call " + n, x.call(n), m.call(n)); break;
            case 3: case 4: due("decline", x.decline(), m.decline()); break;
            default: due("room " + b, x.room(b), m.room(b)); break;
        }
    }

    private void count() {
        int what = random.nextInt(20) - 1;
        due("count " + what, x.count(what), m.count(what));
    }
}
