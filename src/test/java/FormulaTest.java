/** Promises 13 to 18: the tape, formulas, points, order, gain, turned. */
public final class FormulaTest {
    private static final long REFUSED = 4000000000000000000L;

    public static void main(String[] args) {
        feed();
        formulaUnits();
        formulaFaults();
        formulaStays();
        points();
        names();
        bounds();
        order();
        gain();
        turned();
        turnedByBars();
        Check.end("FormulaTest");
    }

    private static void feed() {
        BidsJudged x = new BidsJudged();
        Check.due("13: 0", x.feed(0, 0), -4);
        Check.due("13: 9", x.feed(9, 0), -6);
        for (int i = 1; i <= 9; i++) {
            Check.due("13: eight", x.feed(8, 0x7070707070707070L), 8 * i);
        }
        Check.due("13: one", x.feed(1, 'p'), 73);
        Check.due("13: no room", x.feed(8, 0), -6);
        Check.due("13: seven", x.feed(7, 0), 80);
        Check.due("13: full", x.feed(1, 0), -6);
        Check.due("13: count(9)", x.count(9), 80);
        x.formula();
        Check.due("13: tape has none", x.count(9), 0);
        Check.due("13: only n bytes", x.feed(1, 0x7171), 1);
        Check.due("13: the lowest one", x.formula(), 1);
        Check.due("13: the lowest first", x.feed(3, '1' | '/' << 8 | 'p' << 16), 3);
        Check.due("13: in that row", x.formula(), 2);
    }

    private static void units(String text, int want) {
        Check.due("14: " + text, Check.formula(new BidsJudged(), text), want);
    }

    private static void formulaUnits() {
        units("p", 1);
        units("000000", 1);
        units("999999", 1);
        units("1+2-3*4/5", 5);
        units("<(p,l)", 2);
        units(">(p+h,<(a,q)*b)-k", 6);
        units("((((((p))))))", 1);
        units("<(<(<(<(<(<(p,1),2),3),4),5),6)", 7);
        units("(1)*(2)*(3)*(4)*(5)*(6)*(7)*(8)", 8);
        String sum = "p";
        while (sum.length() < 79) {
            sum += "+p";
        }
        units(sum, 40);
        units(sum + "+", -20 - 80);
    }

    private static void formulaFaults() {
        units("", -20);
        units("x", -20);
        units("P", -20);
        units("+p", -20);
        units("-1", -20);
        units(" p", -20);
        units("p ", -21);
        units("p+", -22);
        units("p++p", -22);
        units("pp", -21);
        units("p1", -21);
        units("1p", -21);
        units("1234567", -26);
        units("(1234567)", -27);
        units("(", -21);
        units("()", -21);
        units("(p", -22);
        units("(p,p)", -22);
        units("p)", -21);
        units("p,p", -21);
        units("<", -21);
        units("<p", -21);
        units("<(p)", -23);
        units("<(p,)", -24);
        units("<(p,p", -25);
        units("<(p,p,p)", -25);
        units("p(", -21);
        units("((((((((", -26);
        units("((((((<(p,p)))))))", -27);
        units("((((((<p", -27);
        units("(((((((", -26);
        units("<(p,(((((p))))))", 2);
        units("<(p,((((((p)))))))", -29);
        units("<(((((((p))))),p)", -27);
        units("p" + (char) 0, -21);
        units("p" + (char) 255, -21);
    }

    private static void formulaStays() {
        BidsJudged x = Make.closed(30);
        Check.due("14: p", Check.formula(x, "p"), 1);
        Check.due("14: a fault", Check.formula(x, "l+"), -22);
        Check.due("14: stays", x.points(0, 0, 0), 30);
        Check.due("14: tape has none", x.count(9), 0);
        for (int what = 11; what <= 17; what++) {
            Check.due("14: nothing is counted", x.count(what), 0);
        }
    }

    private static void points() {
        BidsJudged x = Make.closed(100, 120);
        Check.due("15: bidder 8", x.points(8, 0, 2), REFUSED + 1);
        Check.due("15: lot 1", x.points(0, 1, 0), REFUSED + 1);
        Check.due("15: part 2", x.points(3, 0, 2), REFUSED + 2);
        Check.due("15: part -1", x.points(0, 0, -1), REFUSED + 2);
        Check.due("15: none", x.points(3, 0, 0), REFUSED + 5);
        x.note(0, 0, 0, 7);
        x.note(1, 0, 0, 8);
        Check.due("15: q at first", x.points(0, 0, 0), 15);
        Check.due("15: below", x.points(0, 0, 1), 2);
        Check.formula(x, "50-p");
        Check.due("15: below 0", x.points(0, 0, 0), -50);
        Check.formula(x, "1/(l-p-10)");
        Check.due("15: sign is above", x.points(0, 0, 0), -1);
        Check.due("15: below is above 0", x.points(0, 0, 1), 10);
        Check.formula(x, "1/(p-100)");
        Check.due("15: broken", x.points(0, 0, 0), REFUSED + 7);
        Check.due("15: not the other", x.points(1, 0, 1), 20);
        x.out(1, 0, true);
        Check.due("15: doesn't stand", x.points(1, 0, 1), REFUSED + 5);
        Check.due("15: counted", x.count(15), 2);
    }

    private static void value(BidsJudged x, String text, long above, long below) {
        Check.formula(x, text);
        Check.due("15: " + text, x.points(0, 0, 0), above);
        Check.due("15: below of " + text, x.points(0, 0, 1), below);
    }

    private static void names() {
        BidsJudged x = Make.closed(100, 120, 51, 1);
        x.out(3, 0, true);
        x.note(0, 0, 0, 7);
        x.note(0, 1, 0, 8);
        x.note(1, 1, 0, 9);
        value(x, "p", 100, 1);
        value(x, "l", 51, 1);
        value(x, "h", 120, 1);
        value(x, "a", 271, 3);
        value(x, "q", 7, 1);
        value(x, "b", 17, 2);
        x.note(0, 2, 0, 8);
        x.note(1, 2, 0, 9);
        x.note(2, 2, 0, 9);
        value(x, "b", 26, 3);
        x.note(2, 2, 0, 0);
        value(x, "b", 17, 2);
        value(x, "k", 3, 1);
        value(x, "2+3*4", 14, 1);
        value(x, "(2+3)*4", 20, 1);
        value(x, "7-3-2", 2, 1);
        value(x, "7/3/2", 7, 6);
        value(x, "12/3*2", 8, 1);
        value(x, "<(1/3,1/2)", 1, 3);
        value(x, ">(1/3,1/2)", 1, 2);
        value(x, "<(0-1,0-2)", -2, 1);
        value(x, ">(0-1,0-2)", -1, 1);
        value(x, "<(3/2,2/3)", 2, 3);
        value(x, ">(3/2,2/3)", 3, 2);
        value(x, ">(3/7,2/5)", 3, 7);
        value(x, "<(3/7,2/5)", 2, 5);
        value(x, "0/5", 0, 1);
        value(x, "000012", 12, 1);
    }

    private static void bounds() {
        BidsJudged x = Make.closed(100);
        value(x, "b", 0, 1);
        value(x, "100000*10000", 1000000000L, 1);
        value(x, "1/(100000*10000)", 1, 1000000000L);
        value(x, "0-100000*10000", -1000000000L, 1);
        value(x, "100000*10000+1", REFUSED + 7, REFUSED + 7);
        value(x, "0-100000*10000-1", REFUSED + 7, REFUSED + 7);
        value(x, "100000*10000+1-1", REFUSED + 7, REFUSED + 7);
        value(x, "(1/99991)/99989", REFUSED + 7, REFUSED + 7);
        value(x, "<(1,1/0)", REFUSED + 7, REFUSED + 7);
        value(x, "0*(1/(p-p))", REFUSED + 7, REFUSED + 7);
        value(x, "999999*999999/999999", REFUSED + 7, REFUSED + 7);
        value(x, "999999/999999*999999", 999999, 1);
    }

    private static void order() {
        BidsJudged x = Make.closed(100, 120, 50, 120, 100);
        Check.due("16: lot 1", x.order(1, 0), -1);
        Check.due("16: lot -1", x.order(-1, 0), -1);
        Check.due("16: i -1", x.order(0, -1), -9);
        Check.due("16: i 5", x.order(0, 5), -9);
        orderIs(x, "20", 2, 0, 4, 1, 3);
        x.note(0, 3, 0, 1);
        orderIs(x, "20", 3, 2, 0, 4, 1);
        orderIs(x, "p", 3, 1, 0, 4, 2);
        orderIs(x, "1/p", 2, 0, 4, 3, 1);
        orderIs(x, "1/(p-50)", 0, 4, 3, 1, -9);
        x.out(4, 0, true);
        orderIs(x, "0-p", 2, 0, 3, 1, -9);
        orderIs(x, "1/0", -9, -9, -9, -9, -9);
    }

    private static void orderIs(BidsJudged x, String text, int... want) {
        Check.formula(x, text);
        for (int i = 0; i < want.length; i++) {
            Check.due("16: order by " + text + " at " + i, x.order(0, i), want[i]);
        }
    }

    private static void gain() {
        BidsJudged x = Make.closed(100, 120, 50);
        Check.formula(x, "l/p");
        Check.due("17: bidder 8", x.gain(8, 0, 0, 2), REFUSED + 1);
        Check.due("17: lot 1", x.gain(0, 1, 1, 0), REFUSED + 1);
        Check.due("17: part 2", x.gain(5, 0, 0, 2), REFUSED + 2);
        Check.due("17: none", x.gain(5, 0, 0, 0), REFUSED + 5);
        Check.due("17: 0", x.gain(0, 0, 0, 0), REFUSED + 4);
        Check.due("17: 100000", x.gain(0, 0, 100000, 0), REFUSED + 6);
        Check.due("17: above", x.gain(0, 0, 20, 0), 1);
        Check.due("17: below", x.gain(0, 0, 20, 1), 8);
        Check.due("17: it becomes the least", x.gain(0, 0, 60, 0), 1);
        Check.due("17: it becomes the least, below", x.gain(0, 0, 60, 1), 2);
        Check.formula(x, "a");
        Check.due("17: mean anew", x.gain(0, 0, 20, 0), -20);
        Check.due("17: mean anew, below", x.gain(0, 0, 20, 1), 3);
        Check.formula(x, "p");
        Check.due("17: 1 at least", x.gain(2, 0, 99999, 0), -49);
        Check.formula(x, "h");
        Check.due("17: greatest anew", x.gain(1, 0, 30, 0), -20);
        Check.formula(x, "1/(p-100)");
        Check.due("17: broken now", x.gain(0, 0, 20, 0), REFUSED + 7);
        Check.due("17: broken then", x.gain(1, 0, 20, 0), REFUSED + 7);
        Check.due("17: not broken", x.gain(1, 0, 10, 0), 1);
        Check.formula(x, "1/(1999*(p+900))");
        Check.due("17: the difference is broken", x.gain(0, 0, 1, 0), REFUSED + 7);
        x.out(0, 0, true);
        Check.due("17: doesn't stand", x.gain(0, 0, 1, 0), REFUSED + 5);
        Check.due("17: price is as it was", x.price(1, 0), 120);
    }

    private static void turned() {
        BidsJudged x = Make.closed(100, 120, 50, 40);
        x.note(0, 0, 0, 60);
        x.note(0, 1, 0, 80);
        x.note(0, 2, 0, 10);
        x.out(3, 0, true);
        Check.formula(x, "60*l/p+30*q/b");
        Check.due("18: lot 1", x.turned(1, 0, 1), -1);
        Check.due("18: bidder 8", x.turned(0, 0, 8), -1);
        Check.due("18: bidder -1", x.turned(0, -1, 1), -1);
        Check.due("18: one twice", x.turned(0, 1, 1), -1);
        Check.due("18: missing", x.turned(0, 0, 5), -5);
        Check.due("18: missing i", x.turned(0, 5, 0), -5);
        Check.due("18: out", x.turned(0, 3, 0), -5);
        Check.due("18: ahead of one", x.order(0, 0), 2);
        Check.due("18: not ahead", x.turned(0, 1, 2), -3);
        Check.due("18: none turns it", x.turned(0, 2, 1), -9);
        Check.due("18: one turns it", x.turned(0, 1, 0), 2);
        Check.formula(x, "1/(k-3)");
        Check.due("18: broken", x.turned(0, 0, 1), -7);
        Check.formula(x, "1/(p-100)");
        Check.due("18: j is broken", x.turned(0, 1, 0), -7);
        Check.formula(x, "p/(k-2)");
        Check.due("18: broken without it", x.turned(0, 1, 0), -9);
        Check.formula(x, "(k-5/2)*p");
        Check.due("18: by how many", x.turned(0, 1, 0), 2);
        x.out(3, 0, false);
        Check.formula(x, "(k-7/2)*p");
        Check.due("18: the least third", x.turned(0, 2, 3), 0);
        Check.due("18: the least third, again", x.turned(0, 1, 0), 2);
    }

    /** A scorer barred for the third counts again without the third's bid. */
    private static void turnedByBars() {
        BidsJudged x = Make.closed(10, 10, 10);
        x.note(0, 0, 0, 50);
        x.note(0, 1, 0, 40);
        x.note(1, 1, 0, 100);
        x.bar(1, 2, true);
        Check.due("18: without the barred one's", x.turned(0, 0, 1), 2);
        x.bar(1, 2, false);
        Check.due("18: not ahead then", x.turned(0, 0, 1), -3);
    }
}
