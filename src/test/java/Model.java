import java.math.BigInteger;
import java.util.ArrayDeque;
import java.util.ArrayList;
import java.util.Arrays;
import java.util.Collections;
import java.util.List;
import java.util.TreeSet;

/** The document once more, in the plainest way and by other means, for random runs to be held against. */
final class Model {
    static final long REFUSED = 4000000000000000000L;

    static final class Bid {
        int money;
        int[] items;
        int sum;
        int option;
        int asked = -1;
    }

    /** A fraction; null stands for BROKEN. */
    static final class Q {
        final BigInteger up;
        final BigInteger down;

        private Q(BigInteger up, BigInteger down) {
            this.up = up;
            this.down = down;
        }

        static Q of(BigInteger up, BigInteger down) {
            if (down.signum() == 0) {
                return null;
            }
            BigInteger g = up.gcd(down).multiply(BigInteger.valueOf(down.signum()));
            BigInteger bound = BigInteger.valueOf(1000000000);
            Q q = new Q(up.divide(g), down.divide(g));
            return q.up.abs().compareTo(bound) > 0 || q.down.compareTo(bound) > 0 ? null : q;
        }

        static Q of(long up, long down) {
            return of(BigInteger.valueOf(up), BigInteger.valueOf(down));
        }

        int compare(Q o) {
            return up.multiply(o.down).compareTo(o.up.multiply(down));
        }

        Q apply(char sign, Q o) {
            switch (sign) {
                case '+': return of(up.multiply(o.down).add(o.up.multiply(down)), down.multiply(o.down));
                case '-': return of(up.multiply(o.down).subtract(o.up.multiply(down)), down.multiply(o.down));
                case '*': return of(up.multiply(o.up), down.multiply(o.down));
                case '/': return of(up.multiply(o.down), down.multiply(o.up));
                case '<': return compare(o) <= 0 ? this : o;
                default: return compare(o) >= 0 ? this : o;
            }
        }
    }

    /** The lot's bids that stand, as names see them; one may be left out or cheaper. */
    final class View {
        final int lot;
        final TreeSet<Integer> standing = new TreeSet<>();
        final int[] price = new int[8];

        View(int lot, int without, int cheaper, int by) {
            this.lot = lot;
            for (int b = 0; b < 8; b++) {
                if (b != without && stands(b, lot)) {
                    standing.add(b);
                    price[b] = Math.max(1, priceOf(b, lot) - (b == cheaper ? by : 0));
                }
            }
        }

        Q qualityOf(int bidder) {
            List<Integer> counted = new ArrayList<>();
            for (int s = 0; s < 6; s++) {
                boolean silent = false;
                for (int b : standing) {
                    silent |= bars[s][b];
                }
                if (!silent && notes[s][bidder][lot] != -9) {
                    counted.add(notes[s][bidder][lot]);
                }
            }
            Collections.sort(counted);
            if (counted.size() >= 4) {
                counted = counted.subList(1, counted.size() - 1);
            }
            int sum = 0;
            for (int v : counted) {
                sum += v;
            }
            return counted.isEmpty() ? Q.of(0, 1) : Q.of(sum, counted.size());
        }

        Q nameOf(char name, int bidder) {
            Q mostQuality = Q.of(0, 1);
            long sum = 0;
            List<Integer> prices = new ArrayList<>();
            for (int b : standing) {
                prices.add(price[b]);
                sum += price[b];
                mostQuality = mostQuality.apply('>', qualityOf(b));
            }
            switch (name) {
                case 'p': return Q.of(price[bidder], 1);
                case 'l': return Q.of(Collections.min(prices), 1);
                case 'h': return Q.of(Collections.max(prices), 1);
                case 'a': return Q.of(sum, prices.size());
                case 'q': return qualityOf(bidder);
                case 'b': return mostQuality;
                default: return Q.of(prices.size(), 1);
            }
        }

        Q pointsOf(int bidder) {
            return value(formula, bidder);
        }

        /** Splits at the last sign of the lowest kind that stands in no bracket. */
        private Q value(String t, int bidder) {
            int cut = lastOutside(t, "+-");
            if (cut < 0) {
                cut = lastOutside(t, "*/");
            }
            if (cut >= 0) {
                Q left = value(t.substring(0, cut), bidder);
                Q right = value(t.substring(cut + 1), bidder);
                return left == null || right == null ? null : left.apply(t.charAt(cut), right);
            }
            char c = t.charAt(0);
            if (c == '(') {
                return value(t.substring(1, t.length() - 1), bidder);
            }
            if (c == '<' || c == '>') {
                String inside = t.substring(2, t.length() - 1);
                int comma = lastOutside(inside, ",");
                Q left = value(inside.substring(0, comma), bidder);
                Q right = value(inside.substring(comma + 1), bidder);
                return left == null || right == null ? null : left.apply(c, right);
            }
            return Character.isDigit(c) ? Q.of(Integer.parseInt(t), 1) : nameOf(c, bidder);
        }

        boolean ahead(int i, int j) {
            int c = pointsOf(i).compare(pointsOf(j));
            c = c != 0 ? c : qualityOf(i).compare(qualityOf(j));
            c = c != 0 ? c : Integer.compare(price[j], price[i]);
            return c != 0 ? c > 0 : i < j;
        }

        List<Integer> order() {
            List<Integer> row = new ArrayList<>();
            for (int b : standing) {
                if (pointsOf(b) != null) {
                    row.add(b);
                }
            }
            row.sort((i, j) -> ahead(i, j) ? -1 : 1);
            return row;
        }
    }

    private static int lastOutside(String t, String signs) {
        int depth = 0;
        for (int i = t.length() - 1; i >= 0; i--) {
            char c = t.charAt(i);
            depth += c == ')' ? 1 : c == '(' ? -1 : 0;
            if (depth == 0 && signs.indexOf(c) >= 0) {
                return i;
            }
        }
        return -1;
    }

    /** -1, or the place of the first byte that can't stand: a walk with a stack of open brackets. */
    static int faultOf(String t) {
        ArrayDeque<Character> open = new ArrayDeque<>();
        boolean operand = true;
        int digits = 0;
        for (int i = 0; i < t.length(); i++) {
            char c = t.charAt(i);
            boolean digit = c >= '0' && c <= '9';
            if (operand) {
                if (c == '<' || c == '>') {
                    i++;
                    if (i >= t.length() || t.charAt(i) != '(' || open.size() == 6) {
                        return i;
                    }
                    open.push('<');
                } else if (c == '(') {
                    if (open.size() == 6) {
                        return i;
                    }
                    open.push('(');
                } else if (digit || "plhaqbk".indexOf(c) >= 0) {
                    operand = false;
                    digits = digit ? 1 : 7;
                } else {
                    return i;
                }
            } else if (digit && digits < 6) {
                digits++;
            } else if ("+-*/".indexOf(c) >= 0) {
                operand = true;
            } else if (c == ',' && !open.isEmpty() && open.peek() == '<') {
                open.pop();
                open.push(',');
                operand = true;
            } else if (c == ')' && !open.isEmpty() && open.peek() != '<') {
                open.pop();
                digits = 7;
            } else {
                return i;
            }
        }
        return operand || !open.isEmpty() ? t.length() : -1;
    }

    static int unitsOf(String t) {
        int n = 0;
        for (int i = 0; i < t.length(); i++) {
            boolean digit = Character.isDigit(t.charAt(i));
            boolean digitBefore = i > 0 && Character.isDigit(t.charAt(i - 1));
            if (Character.isLetter(t.charAt(i)) || digit && !digitBefore) {
                n++;
            }
        }
        return n;
    }

    int now;
    int closing = -1;
    int lots = 1;
    int late;
    final int[] rates = {1000, 1000, 1000, 1000};
    final int[] settings = {0, 0, 0, 50};
    final Bid[][] bids = new Bid[8][6];
    final boolean[][] sins = new boolean[8][6];
    final int[][][] notes = new int[6][8][6];
    final boolean[][] bars = new boolean[6][8];
    String tape = "";
    String formula = "q";
    final int[] mosts = {6, 6, 6, 6, 6, 6, 6, 6};
    final int[][] rebates = new int[8][7];
    final int[] refusals = new int[8];
    boolean isAwarded;
    boolean isSigned;
    int until;
    int[] awardedTo;
    int[] awardedPrice;
    final int[] changes = new int[6];
    /** Each: lot, stage, 1 while it holds. */
    final List<int[]> challenges = new ArrayList<>();
    /** Each: bidder, room. */
    final List<int[]> row = new ArrayList<>();
    int latest = -1;
    int callSize;

    Model() {
        for (int[][] byBidder : notes) {
            for (int[] byLot : byBidder) {
                Arrays.fill(byLot, -9);
            }
        }
    }

    boolean open() {
        return closing < 0 || now <= closing;
    }

    int priceOf(int b, int l) {
        Bid bid = bids[b][l];
        long items = Arrays.stream(bid.items).sum();
        long base = items;
        if (bid.sum != items && settings[0] == 1) {
            base = bid.sum;
        }
        if (bid.sum != items && settings[0] == 2) {
            base = Math.max(items, bid.sum);
        }
        base += (long) bid.option * settings[1] / 100;
        return (int) Math.max(1, base * rates[bid.money] / 1000);
    }

    boolean there(int b, int l) {
        return bids[b][l] != null;
    }

    boolean unanswered(int b, int l) {
        return there(b, l) && bids[b][l].asked >= 0 && now > bids[b][l].asked;
    }

    boolean stands(int b, int l) {
        return there(b, l) && !sins[b][l] && !unanswered(b, l);
    }

    View view(int l) {
        return new View(l, -1, -1, 0);
    }

    int no(int code) {
        refusals[-code]++;
        return code;
    }

    long noLong(int code) {
        return REFUSED - no(code);
    }

    boolean bidder(int b) {
        return b >= 0 && b < 8;
    }

    boolean lot(int l) {
        return l >= 0 && l < lots;
    }

    int time(int n) {
        if (n < 1) return no(-4);
        if ((long) now + n > 999999) return no(-6);
        now += n;
        return now;
    }

    int rate(int money, int v) {
        if (money < 1 || money > 3) return no(-1);
        if (!open()) return no(-3);
        if (v < 1) return no(-4);
        if (v > 100000) return no(-6);
        int was = rates[money];
        rates[money] = v;
        return was;
    }

    int lots(int n) {
        if (!open()) return no(-3);
        if (n < 1) return no(-4);
        if (n > 6) return no(-6);
        int was = lots;
        lots = n;
        for (int b = 0; b < 8; b++) {
            for (int l = n; l < 6; l++) {
                bids[b][l] = null;
            }
        }
        return was;
    }

    int closing(int t) {
        if (closing >= 0) return no(-3);
        if (t < now) return no(-4);
        if (t > 999999) return no(-6);
        closing = t;
        return 1;
    }

    int bid(int b, int l, int money, int[] v) {
        if (!bidder(b) || !lot(l) || money < 0 || money > 3) return no(-1);
        for (int x : v) {
            if (x < 0) return no(-4);
        }
        for (int i = 0; i < 6; i++) {
            if (v[i] > (i == 4 ? 999999 : 99999)) return no(-6);
        }
        if (!open()) {
            late++;
            return -9;
        }
        Bid bid = new Bid();
        bid.money = money;
        bid.items = Arrays.copyOf(v, 4);
        bid.sum = v[4];
        bid.option = v[5];
        boolean was = there(b, l);
        bids[b][l] = bid;
        return was ? 0 : 1;
    }

    int withdraw(int b, int l) {
        if (!bidder(b) || !lot(l)) return no(-1);
        if (!there(b, l)) return no(-5);
        if (!open()) {
            late++;
            return -9;
        }
        bids[b][l] = null;
        return 1;
    }

    int set(int what, int v) {
        if (what < 0 || what > 3) return no(-2);
        if (v < 0) return no(-4);
        if (v > (what == 0 ? 2 : 100)) return no(-6);
        int was = settings[what];
        settings[what] = v;
        return was;
    }

    int price(int b, int l) {
        if (!bidder(b) || !lot(l)) return no(-1);
        return there(b, l) ? priceOf(b, l) : no(-5);
    }

    int note(int s, int b, int l, int v) {
        if (s < 0 || s > 5 || !bidder(b) || !lot(l)) return no(-1);
        if (!stands(b, l)) return no(-5);
        if (open()) return no(-3);
        if (v < 0) return no(-4);
        if (v > 100) return no(-6);
        int was = notes[s][b][l];
        notes[s][b][l] = v;
        return was;
    }

    int bar(int s, int b, boolean on) {
        if (s < 0 || s > 5 || !bidder(b)) return no(-1);
        boolean was = bars[s][b];
        bars[s][b] = on;
        return was == on ? 0 : 1;
    }

    int quality(int b, int l, int part) {
        if (!bidder(b) || !lot(l)) return no(-1);
        if (part != 0 && part != 1) return no(-2);
        if (!there(b, l)) return no(-5);
        Q q = view(l).qualityOf(b);
        return (part == 0 ? q.up : q.down).intValueExact();
    }

    int feed(int n, long bytes) {
        if (n < 1) return no(-4);
        if (n > 8 || tape.length() + n > 80) return no(-6);
        for (int i = 0; i < n; i++) {
            tape += (char) (bytes >> 8 * i & 255);
        }
        return tape.length();
    }

    int formula() {
        String t = tape;
        tape = "";
        int fault = faultOf(t);
        if (fault >= 0) return -20 - fault;
        formula = t;
        return unitsOf(t);
    }

    long points(int b, int l, int part) {
        if (!bidder(b) || !lot(l)) return noLong(-1);
        if (part != 0 && part != 1) return noLong(-2);
        if (!stands(b, l)) return noLong(-5);
        Q q = view(l).pointsOf(b);
        if (q == null) return noLong(-7);
        return (part == 0 ? q.up : q.down).longValueExact();
    }

    int order(int l, int i) {
        if (!lot(l)) return no(-1);
        List<Integer> order = view(l).order();
        return i < 0 || i >= order.size() ? -9 : order.get(i);
    }

    long gain(int b, int l, int d, int part) {
        if (!bidder(b) || !lot(l)) return noLong(-1);
        if (part != 0 && part != 1) return noLong(-2);
        if (!stands(b, l)) return noLong(-5);
        if (d < 1) return noLong(-4);
        if (d > 99999) return noLong(-6);
        Q before = view(l).pointsOf(b);
        Q then = new View(l, -1, b, d).pointsOf(b);
        Q gain = before == null || then == null ? null : then.apply('-', before);
        if (gain == null) return noLong(-7);
        return (part == 0 ? gain.up : gain.down).longValueExact();
    }

    int turned(int l, int i, int j) {
        if (!lot(l) || !bidder(i) || !bidder(j) || i == j) return no(-1);
        if (!stands(i, l) || !stands(j, l)) return no(-5);
        View all = view(l);
        if (all.pointsOf(i) == null || all.pointsOf(j) == null) return no(-7);
        if (!all.ahead(i, j)) return no(-3);
        for (int third : all.standing) {
            if (third == i || third == j) continue;
            View less = new View(l, third, -1, 0);
            if (less.pointsOf(i) != null && less.pointsOf(j) != null && less.ahead(j, i)) return third;
        }
        return -9;
    }

    boolean tooLow(int b, int l) {
        TreeSet<Integer> others = new View(l, b, -1, 0).standing;
        if (others.isEmpty()) return false;
        BigInteger sum = BigInteger.ZERO;
        for (int o : others) {
            sum = sum.add(BigInteger.valueOf(priceOf(o, l)));
        }
        BigInteger left = BigInteger.valueOf(priceOf(b, l)).multiply(BigInteger.valueOf(100L * others.size()));
        return left.compareTo(sum.multiply(BigInteger.valueOf(settings[2]))) < 0;
    }

    int low(int b, int l) {
        if (!bidder(b) || !lot(l)) return no(-1);
        if (!stands(b, l)) return no(-5);
        return tooLow(b, l) ? 1 : 0;
    }

    int ask(int b, int l, int t) {
        if (!bidder(b) || !lot(l)) return no(-1);
        if (!stands(b, l)) return no(-5);
        if (!tooLow(b, l) || bids[b][l].asked >= 0) return no(-3);
        if (t <= now) return no(-4);
        if (t > 999999) return no(-6);
        bids[b][l].asked = t;
        return 1;
    }

    int answer(int b, int l) {
        if (!bidder(b) || !lot(l)) return no(-1);
        if (!stands(b, l)) return no(-5);
        if (bids[b][l].asked < 0) return no(-3);
        bids[b][l].asked = -1;
        return 1;
    }

    int out(int b, int l, boolean on) {
        if (!bidder(b) || !lot(l)) return no(-1);
        boolean was = sins[b][l] || unanswered(b, l);
        sins[b][l] = on;
        if (!on && unanswered(b, l)) {
            bids[b][l].asked = -1;
        }
        return was == on ? 0 : 1;
    }

    int most(int b, int v) {
        if (!bidder(b)) return no(-1);
        if (v < 0) return no(-4);
        if (v > 6) return no(-6);
        int was = mosts[b];
        mosts[b] = v;
        return was;
    }

    int rebate(int b, int m, int v) {
        if (!bidder(b)) return no(-1);
        if (m < 1 || v < 0) return no(-4);
        if (m > 6 || v > 50) return no(-6);
        int was = rebates[b][m];
        rebates[b][m] = v;
        return was;
    }

    /** Lots not given, value, places; then who gets each lot (8: none). */
    int[] bestWhole() {
        List<List<Integer>> orders = new ArrayList<>();
        for (int l = 0; l < lots; l++) {
            orders.add(view(l).order());
        }
        int[][] prices = new int[8][6];
        for (int b = 0; b < 8; b++) {
            for (int l = 0; l < lots; l++) {
                prices[b][l] = there(b, l) ? priceOf(b, l) : 0;
            }
        }
        int[] best = new int[3 + lots];
        best[0] = 7;
        tryLots(orders, prices, new int[lots], 0, best);
        return best;
    }

    private void tryLots(List<List<Integer>> orders, int[][] prices, int[] given, int l, int[] best) {
        if (l == lots) {
            int[] found = worth(orders, prices, given);
            if (found != null && Arrays.compare(found, best) < 0) {
                System.arraycopy(found, 0, best, 0, found.length);
            }
            return;
        }
        for (int b : orders.get(l)) {
            given[l] = b;
            tryLots(orders, prices, given, l + 1, best);
        }
        given[l] = 8;
        tryLots(orders, prices, given, l + 1, best);
    }

    private int[] worth(List<List<Integer>> orders, int[][] prices, int[] given) {
        int[] found = new int[3 + lots];
        int[] m = new int[9];
        long[] sum = new long[9];
        for (int l = 0; l < lots; l++) {
            int b = given[l];
            found[3 + l] = b;
            m[b]++;
            if (b < 8) {
                sum[b] += prices[b][l];
                found[2] += orders.get(l).indexOf(b);
            }
        }
        found[0] = m[8];
        for (int b = 0; b < 8; b++) {
            if (m[b] > mosts[b]) return null;
            found[1] += (int) -Math.floorDiv(-sum[b] * (100 - rebates[b][m[b]]), 100L);
        }
        return found;
    }

    int whole(int what) {
        if (what != 0 && what != 1) return no(-2);
        if (open()) return no(-3);
        int[] best = bestWhole();
        return what == 0 ? lots - best[0] : best[1];
    }

    int winner(int l) {
        if (!lot(l)) return no(-1);
        if (open()) return no(-3);
        int b = bestWhole()[3 + l];
        return b == 8 ? -9 : b;
    }

    int award(int way) {
        if (way != 0 && way != 1) return no(-2);
        if (open() || isAwarded) return no(-3);
        int[] best = bestWhole();
        isAwarded = true;
        until = now + 1440 * (way == 0 ? 10 : 13);
        awardedTo = new int[lots];
        awardedPrice = new int[lots];
        for (int l = 0; l < lots; l++) {
            awardedTo[l] = best[3 + l] == 8 ? -9 : best[3 + l];
            awardedPrice[l] = awardedTo[l] < 0 ? 0 : priceOf(awardedTo[l], l);
        }
        return lots - best[0];
    }

    int awarded(int l) {
        if (!lot(l)) return no(-1);
        return isAwarded ? awardedTo[l] : no(-3);
    }

    int challenge(int l, int stage) {
        if (!lot(l)) return no(-1);
        if (stage < 0 || stage > 2) return no(-2);
        if (!isAwarded || now > until || isSigned) return no(-3);
        if (challenges.size() == 20) return no(-6);
        challenges.add(new int[] {l, stage, 1});
        return challenges.size() - 1;
    }

    int judge(int c, boolean right) {
        if (c < 0 || c >= challenges.size()) return no(-1);
        int[] it = challenges.get(c);
        if (it[2] == 0) return no(-3);
        it[2] = 0;
        if (!right) return 1;
        isAwarded = false;
        for (int[] other : challenges) {
            other[2] = 0;
        }
        if (it[1] == 0) {
            formula = "q";
        }
        for (int b = 0; b < 8 && it[1] > 0; b++) {
            for (int s = 0; s < 6; s++) {
                notes[s][b][it[0]] = -9;
            }
            if (it[1] == 2 && there(b, it[0])) {
                out(b, it[0], false);
            }
        }
        return 1;
    }

    int holding() {
        int n = 0;
        for (int[] c : challenges) {
            n += c[2];
        }
        return n;
    }

    int sign() {
        if (!isAwarded || now <= until || holding() > 0 || isSigned) return no(-3);
        isSigned = true;
        return 1;
    }

    int change(int l, int sum) {
        if (!lot(l)) return no(-1);
        if (!isSigned || awardedTo[l] == -9) return no(-3);
        if (sum < 1) return no(-4);
        if (sum > 999999) return no(-6);
        if ((changes[l] + (long) sum) * 100 > (long) settings[3] * awardedPrice[l]) return -9;
        changes[l] += sum;
        return changes[l];
    }

    static long alike(int[] a, int[] b) {
        long sum = 0;
        for (int i = 0; i < 4; i++) {
            sum += Math.abs(a[i] * (long) Arrays.stream(b).sum() - b[i] * (long) Arrays.stream(a).sum());
        }
        return sum;
    }

    static void orders(int[] items, int from, List<int[]> all) {
        if (from == 4) {
            all.add(items.clone());
            return;
        }
        for (int i = from; i < 4; i++) {
            int[] swapped = items.clone();
            swapped[from] = items[i];
            swapped[i] = items[from];
            orders(swapped, from + 1, all);
        }
    }

    static int byChance(int[] a, int[] b) {
        List<int[]> all = new ArrayList<>();
        orders(b, 0, all);
        int n = 0;
        for (int[] order : all) {
            n += alike(a, order) <= alike(a, b) ? 1 : 0;
        }
        return n;
    }

    long likeness(int l, int a, int b) {
        if (!lot(l) || !bidder(a) || !bidder(b) || a == b) return noLong(-1);
        if (!there(a, l) || !there(b, l)) return noLong(-5);
        return alike(bids[a][l].items, bids[b][l].items);
    }

    int chance(int l, int a, int b) {
        if (!lot(l) || !bidder(a) || !bidder(b) || a == b) return no(-1);
        if (!there(a, l) || !there(b, l)) return no(-5);
        return byChance(bids[a][l].items, bids[b][l].items);
    }

    int ring(int l, int b) {
        if (!lot(l) || !bidder(b)) return no(-1);
        if (!there(b, l)) return no(-5);
        int[] least = {0, 1, 2, 3, 4, 5, 6, 7};
        for (int round = 0; round < 8; round++) {
            for (int i = 0; i < 8; i++) {
                for (int j = 0; j < 8; j++) {
                    if (i != j && there(i, l) && there(j, l) && joined(bids[i][l].items, bids[j][l].items)) {
                        least[i] = Math.min(least[i], least[j]);
                    }
                }
            }
        }
        return least[b];
    }

    static boolean joined(int[] a, int[] b) {
        long product = (long) Arrays.stream(a).sum() * Arrays.stream(b).sum();
        return alike(a, b) == 0 || byChance(a, b) == 1 && alike(a, b) * 50 <= product;
    }

    int[] member(int b) {
        for (int[] m : row) {
            if (m[0] == b) return m;
        }
        return null;
    }

    int join(int b, int room) {
        if (!bidder(b)) return no(-1);
        if (member(b) != null) return no(-3);
        if (room < 1) return no(-4);
        if (room > 999) return no(-6);
        row.add(new int[] {b, room});
        return row.size();
    }

    int callFirst = -1;
    int callHolder = -1;

    int call(int n) {
        if (n < 1) return no(-4);
        if (n > 999) return no(-6);
        callSize = n;
        callHolder = -1;
        for (int i = 1; i <= row.size() && callHolder < 0; i++) {
            int at = (latest + i) % row.size();
            if (row.get(at)[1] >= n) {
                callHolder = at;
            }
        }
        callFirst = callHolder;
        return goTo(callHolder);
    }

    private int goTo(int at) {
        callHolder = at;
        if (at < 0) return -9;
        row.get(at)[1] -= callSize;
        latest = at;
        return row.get(at)[0];
    }

    int decline() {
        if (callHolder < 0) return no(-3);
        row.get(callHolder)[1] += callSize;
        int at = (callHolder + 1) % row.size();
        while (at != callFirst && row.get(at)[1] < callSize) {
            at = (at + 1) % row.size();
        }
        return goTo(at == callFirst ? -1 : at);
    }

    int room(int b) {
        if (!bidder(b)) return no(-1);
        return member(b) == null ? no(-3) : member(b)[1];
    }

    int count(int what) {
        int there = 0;
        int standing = 0;
        for (int b = 0; b < 8; b++) {
            for (int l = 0; l < 6; l++) {
                there += there(b, l) ? 1 : 0;
                standing += stands(b, l) ? 1 : 0;
            }
        }
        int[] first = {now, lots, there, standing, late, open() ? 1 : 0, isAwarded ? 1 : 0, isSigned ? 1 : 0,
            holding(), tape.length()};
        if (what >= 0 && what < first.length) return first[what];
        return what >= 11 && what <= 17 ? refusals[what - 10] : -9;
    }
}
