/** The edges that part II names of texts, fractions, points, order, gain and turned, with promises 13 to 18. */
public final class EdgesOfFormulasTest {
    private static final int[] NOBODY = {-1, 8, Integer.MIN_VALUE, Integer.MAX_VALUE};
    private static final int[] NO_PART = {-1, 2, Integer.MIN_VALUE, Integer.MAX_VALUE};
    private static final long REFUSED = 4000000000000000000L;
    private static final long BROKEN = REFUSED + 7;
    private static final String BILLION = "1000*1000*1000";

    public static void main(String[] args) {
        tape();
        feedIsRefused();
        eightyBytes();
        grammar();
        numbers();
        nameSigns();
        lessAndGreater();
        brackets();
        seventhBracket();
        firstByte();
        theEnd();
        tapeBecomesFormula();
        faultLeavesFormula();
        nothingIsCounted();
        names();
        namesOfOne();
        divisionByZero();
        greatestParts();
        partsAbove();
        afterAnyOperation();
        firstInLeastTerms();
        pointsAtFirst();
        pointsSign();
        pointsAreRefused();
        Check.end("EdgesOfFormulasTest");
    }

    private static void text(String text, int want) {
        Check.due(text, Check.formula(new BidsJudged(), text), want);
    }

    private static void points(BidsJudged x, String text, long above, long below) {
        Check.due(text + " is a formula", Check.formula(x, text) > 0);
        Check.due(text + ", above", x.points(0, 0, 0), above);
        Check.due(text + ", below", x.points(0, 0, 1), below);
    }

    private static void broken(BidsJudged x, String text) {
        points(x, text, BROKEN, BROKEN);
    }

    private static String many(String unit, int times) {
        StringBuilder all = new StringBuilder();
        for (int i = 0; i < times; i++) {
            all.append(unit);
        }
        return all.toString();
    }

    private static void tape() {
        Check.says("n (1 .. 8) bytes come, the lowest first: how many THE TAPE has.");
        BidsJudged x = new BidsJudged();
        Check.due("one", x.feed(1, '7'), 1);
        Check.due("eight", x.feed(8, 0x2B702B702B702B2AL), 9);
        Check.due("count(9)", x.count(9), 9);
        Check.due("7*+p..: the second sign is at fault", x.formula(), -22);
        Check.due("two of more", x.feed(2, 0x7070702BL << 8 | 'p'), 2);
        Check.due("p+ and its end", x.formula(), -22);
        Check.due("the highest byte, a sign of 255", x.feed(8, 0xFF2B702B702B702BL), 8);
        Check.due("+ at the first place", x.formula(), -20);
        Check.feed(x, "p+p+p+p");
        x.feed(1, 0xFFL);
        Check.due("255 at the last place", x.formula(), -27);
    }

    private static void feedIsRefused() {
        Check.says("how many THE TAPE has. -4; -6 (n; above 80).");
        BidsJudged x = new BidsJudged();
        int[] below = {0, -1, Integer.MIN_VALUE};
        for (int n : below) {
            Check.due("n " + n, x.feed(n, 0), -4);
        }
        int[] above = {9, Integer.MAX_VALUE};
        for (int n : above) {
            Check.due("n " + n, x.feed(n, 0), -6);
        }
        Check.due("nothing came", x.count(9), 0);
        for (int i = 1; i <= 9; i++) {
            x.feed(8, 0);
        }
        Check.due("76", x.feed(4, 0), 76);
        Check.due("81", x.feed(5, 0), -6);
        Check.due("84", x.feed(8, 0), -6);
        Check.due("76 still", x.count(9), 76);
        Check.due("80", x.feed(4, 0), 80);
        Check.due("full", x.feed(1, 0), -6);
        Check.due("full, below", x.feed(0, 0), -4);
    }

    private static void eightyBytes() {
        Check.says("A FORMULA is a TEXT (80 bytes at most)");
        text("10" + many("+p", 39), 40);
        text("(" + many("p+", 38) + "10)", 39);
        BidsJudged x = Make.closed(3);
        points(x, "10" + many("+p", 39), 127, 1);
        points(x, "p" + many("-1", 39), -36, 1);
        BidsJudged y = new BidsJudged();
        Check.feed(y, many("p+", 40));
        Check.due("an 81st byte", y.feed(1, 'p'), -6);
        Check.due("80 bytes, one lacks", y.formula(), -100);
        text(many("p+", 39) + "px", -99);
    }

    private static void grammar() {
        Check.says("SUM: TERM { \"+\" TERM, \"-\" TERM }; TERM: UNIT { \"*\" UNIT, \"/\" UNIT };");
        BidsJudged x = Make.closed(3);
        points(x, "2+3*4-5", 9, 1);
        points(x, "2*3+4*5", 26, 1);
        points(x, "9-3-2", 4, 1);
        points(x, "9-3+2", 8, 1);
        points(x, "8/4/2", 1, 1);
        points(x, "8/4*2", 4, 1);
        points(x, "(2+3)*4", 20, 1);
        points(x, "2-(3-4)", 3, 1);
        points(x, "<(5,4)", 4, 1);
        points(x, ">(5,4)", 5, 1);
        points(x, "<(4,5)", 4, 1);
        points(x, ">(4,5)", 5, 1);
        points(x, "<(4,4)+>(4,4)", 8, 1);
        points(x, "<(2*3,1+4)", 5, 1);
        points(x, "<(0-5,1/2)", -5, 1);
        points(x, "<(2/3,3/4)", 2, 3);
        points(x, ">(2/3,3/4)", 3, 4);
    }

    private static void numbers() {
        Check.says("a NUMBER (1 to 6 digits)");
        text("", -20);
        text("0", 1);
        text("9", 1);
        text("999999", 1);
        text("000000", 1);
        text("1234567", -26);
        text("p+1234567", -28);
        text("1000000", -26);
        text("0000000", -26);
        BidsJudged x = Make.closed(3);
        points(x, "0", 0, 1);
        points(x, "000019", 19, 1);
        points(x, "999999", 999999, 1);
        text("/1", -20);
        text(":", -20);
        text("1 2", -21);
    }

    private static void nameSigns() {
        Check.says("p its PRICE, l the least PRICE, h the greatest, a the mean, q its QUALITY, b the greatest"
            + " QUALITY, k how many.");
        for (int sign = 0; sign < 256; sign++) {
            boolean isUnit = "plhaqbk0123456789".indexOf(sign) >= 0;
            int begun = "(<>".indexOf(sign) >= 0 ? -21 : -20;
            text(String.valueOf((char) sign), isUnit ? 1 : begun);
        }
        text("pq", -21);
        text("2p", -21);
        text("p2", -21);
    }

    private static void lessAndGreater() {
        Check.says("a NAME, \"(\" SUM \")\", \"<(\" SUM \",\" SUM \")\" (the less), "
            + "\">(\" SUM \",\" SUM \")\" (the greater).");
        BidsJudged x = Make.closed(3);
        points(x, "<(2,p)", 2, 1);
        points(x, "<(p,2)", 2, 1);
        points(x, ">(2,p)", 3, 1);
        points(x, ">(p,2)", 3, 1);
        points(x, "<(p,3)", 3, 1);
        points(x, ">(3,p)", 3, 1);
        points(x, "<(1/3,33/100)", 33, 100);
        points(x, ">(1/3,33/100)", 1, 3);
        points(x, "<(0-p,0-2)", -3, 1);
        points(x, ">(0-p,0-2)", -2, 1);
        points(x, "10-<(p+4,p*4)*2", -4, 1);
        points(x, ">(<(p,9),<(5,4))/2", 2, 1);
        points(x, "10-(p-1)*2", 6, 1);
        points(x, "(p)", 3, 1);
        text("<(p)", -23);
        text("<(p,p", -25);
        text(">(p,p,p)", -25);
        text(">(,p)", -22);
        text("<(p,)", -24);
        text("(p,p)", -22);
        text("()", -21);
        text(">>(p,p)", -21);
    }

    private static void brackets() {
        Check.says("Brackets are 6 deep at most.");
        text("((((((p))))))", 1);
        text("<(<(<(<(<(<(p,1),2),3),4),5),6)", 7);
        text(">(6,>(5,>(4,>(3,>(2,>(1,p))))))", 7);
        text("(<((>((<(p,q)),a)),b))", 4);
        text("(((p)))*(((p)))*(((p)))", 3);
        text("((((((p))))))+((((((p))))))", 2);
        text("<((((((p))))),(((((q))))))", 2);
    }

    private static void seventhBracket() {
        Check.says("(the end, if something lacks; of a seventh bracket its own).");
        text("(((((((p)))))))", -26);
        text("(((((((", -26);
        text("p*(((((((p)))))))", -28);
        text("((((((p))))))+(((((((p)))))))", -40);
        text("<((((((p))))),((((((q)))))))", -39);
        text("<(((((((p)))))),q)", -27);
        text("((((((<(p,q)))))))", -27);
        text("((((((>(p,q)))))))", -27);
    }

    private static void firstByte() {
        Check.says("FAULT: the place of the first byte that can not stand");
        String[] texts = {"x", "+p", "p+*p", "p+-p", "p**p", "p)", "(p))", "()", "(+", "p(", "(p)(p)", "(p)p", "p,p",
            "(p,p)", "<p", "<)", "<<(p,p)", ">(,p)", ">(p,)", ">(p)", "<(p,p,p)", "<(p+,p)", "1.5", "P", "p p"};
        int[] places = {0, 0, 2, 2, 2, 1, 3, 1, 1, 1, 3, 3, 1,
            2, 1, 1, 1, 2, 4, 3, 5, 4, 1, 0, 1};
        for (int i = 0; i < texts.length; i++) {
            text(texts[i], -20 - places[i]);
            text(texts[i] + "!!", -20 - places[i]);
        }
    }

    private static void theEnd() {
        Check.says("(the end, if something lacks;");
        String[] texts = {"", "p+", "p*", "12/", "(", "(p", "(p+", "((p)", "<", "<(", ">(p", ">(p,", ">(p,p", "p-(q"};
        for (String text : texts) {
            text(text, -20 - text.length());
        }
    }

    private static void tapeBecomesFormula() {
        Check.says("THE TAPE becomes the FORMULA, and has none: its UNITS (NUMBERS, NAMES);");
        BidsJudged x = Make.closed(30);
        Check.feed(x, "p*2+<(7,p)");
        Check.due("units", x.formula(), 4);
        Check.due("the tape has none", x.count(9), 0);
        Check.due("points", x.points(0, 0, 0), 67);
        Check.due("a number is one unit", Check.formula(x, "123456"), 1);
        Check.due("brackets are none", Check.formula(x, "((p))"), 1);
        Check.due("a shorter one", x.points(0, 0, 0), 30);
        Check.due("the tape begins anew", x.feed(1, 'k'), 1);
    }

    private static void faultLeavesFormula() {
        Check.says("or, if it has a FAULT, -20 less its place, and the FORMULA stays");
        BidsJudged x = Make.closed(30);
        Check.formula(x, "p+7");
        String[] faults = {"", "1+", "k*(2", "1234567", "(((((((p)))))))"};
        for (String fault : faults) {
            Check.due("a fault: " + fault, Check.formula(x, fault) <= -20);
            Check.due("stays behind " + fault, x.points(0, 0, 0), 37);
            Check.due("the tape has none behind " + fault, x.count(9), 0);
        }
    }

    private static void nothingIsCounted() {
        Check.says("and the FORMULA stays (nothing is counted).");
        BidsJudged x = new BidsJudged();
        x.formula();
        Check.formula(x, "x");
        Check.formula(x, "p+");
        for (int what = 11; what <= 17; what++) {
            Check.due("count(" + what + ")", x.count(what), 0);
        }
    }

    private static void names() {
        Check.says("NAMES, of a BID and of the LOT's BIDS that STAND:");
        BidsJudged x = Make.open(100, 120, 51, 1, 5000);
        x.lots(2);
        Make.bid(x, 0, 1, 7);
        Make.close(x);
        int[] marks = {7, 8, 9, 99, 98};
        for (int bidder = 0; bidder < 5; bidder++) {
            x.note(0, bidder, 0, marks[bidder]);
        }
        x.out(3, 0, true);
        x.out(4, 0, true);
        points(x, "p", 100, 1);
        points(x, "l", 51, 1);
        points(x, "h", 120, 1);
        points(x, "a", 271, 3);
        points(x, "q", 7, 1);
        points(x, "b", 9, 1);
        points(x, "k", 3, 1);
        Check.due("of the other lot", x.points(0, 1, 0), 1);
        x.out(3, 0, false);
        points(x, "l", 1, 1);
        points(x, "b", 99, 1);
        x.out(4, 0, false);
        points(x, "h", 5000, 1);
        points(x, "k", 5, 1);
    }

    private static void namesOfOne() {
        Check.says("a the mean, q its QUALITY, b the greatest QUALITY, k how many.");
        BidsJudged x = Make.closed(30);
        x.note(0, 0, 0, 40);
        x.note(1, 0, 0, 41);
        points(x, "p-l", 0, 1);
        points(x, "p-h", 0, 1);
        points(x, "p-a", 0, 1);
        points(x, "q", 81, 2);
        points(x, "b", 81, 2);
        points(x, "k", 1, 1);
        BidsJudged y = Make.closed(1, 1, 1, 1, 1, 1, 1, 2);
        points(y, "k", 8, 1);
        points(y, "a", 9, 8);
        points(y, "b", 0, 1);
    }

    private static void divisionByZero() {
        Check.says("BROKEN: a division by 0,");
        BidsJudged x = Make.closed(30);
        broken(x, "1/0");
        broken(x, "0/0");
        broken(x, "1/(p-30)");
        broken(x, "1/q");
        broken(x, "5+7/(l-h)*0");
        broken(x, "<(1,1/0)");
        broken(x, ">(1/0,1)");
        points(x, "0/1", 0, 1);
        points(x, "0/(0-7)", 0, 1);
        points(x, "1/(0-7)", -1, 7);
        points(x, "(0-1)/(0-7)", 1, 7);
    }

    private static void greatestParts() {
        Check.says("a fraction of which a part (without sign) is above 1000000000");
        BidsJudged x = Make.closed(30);
        long billion = 1000000000L;
        points(x, BILLION, billion, 1);
        points(x, "0-" + BILLION, -billion, 1);
        points(x, "1/(" + BILLION + ")", 1, billion);
        points(x, "0-1/(" + BILLION + ")", -1, billion);
        points(x, "(" + BILLION + ")/7", billion, 7);
        points(x, "(" + BILLION + "-1)/(" + BILLION + ")", billion - 1, billion);
        points(x, BILLION + "-1+1", billion, 1);
        points(x, "<(" + BILLION + ",1)", 1, 1);
        points(x, ">(" + BILLION + ",1)", billion, 1);
        points(x, BILLION + "-(" + BILLION + ")", 0, 1);
        points(x, "(" + BILLION + ")/(" + BILLION + ")", 1, 1);
    }

    private static void partsAbove() {
        Check.says("(without sign) is above 1000000000 (after any operation).");
        BidsJudged x = Make.closed(30);
        broken(x, BILLION + "+1");
        broken(x, "0-" + BILLION + "-1");
        broken(x, BILLION + "+1/2");
        broken(x, "999999*999999");
        broken(x, "1/1000/1000/1001");
        broken(x, "0-1/999983/999979");
        broken(x, "1/99991+1/99989");
        broken(x, "1/99991-1/99989");
        broken(x, BILLION + "/(1/2)");
        broken(x, "(" + BILLION + ")*(" + BILLION + ")");
        broken(x, "1/(" + BILLION + ")/(" + BILLION + ")");
        broken(x, "(" + BILLION + ")+(" + BILLION + ")");
    }

    private static void afterAnyOperation() {
        Check.says("(after any operation)");
        BidsJudged x = Make.closed(30);
        broken(x, BILLION + "+1-1");
        broken(x, "999999*999999/999999");
        points(x, "999999/999999*999999", 999999, 1);
        broken(x, "0*(" + BILLION + "*2)");
        broken(x, "<(1," + BILLION + "*2)");
        broken(x, "(1/99991-1/99989)*99991*99989");
    }

    private static void firstInLeastTerms() {
        Check.says("Worked in fractions in least terms;");
        BidsJudged x = Make.closed(30);
        points(x, "(999999/7919)*(7919/999999)", 1, 1);
        points(x, "(999999/7919)/(999999/7919)", 1, 1);
        points(x, "1/999983+1/999983", 2, 999983);
        points(x, "999983/999979-4/999979", 1, 1);
        points(x, "6/4", 3, 2);
        points(x, "p/12*2", 5, 1);
    }

    private static void pointsAtFirst() {
        Check.says("POINTS of a BID: by the FORMULA (q at first).");
        BidsJudged x = Make.closed(30, 40);
        x.note(0, 0, 0, 3);
        x.note(1, 0, 0, 4);
        Check.due("q, above", x.points(0, 0, 0), 7);
        Check.due("q, below", x.points(0, 0, 1), 2);
        Check.due("of the other", x.points(1, 0, 0), 0);
        Check.due("of the other, below", x.points(1, 0, 1), 1);
        Check.formula(x, "p");
        Check.due("by another formula", x.points(0, 0, 0), 30);
    }

    private static void pointsSign() {
        Check.says("POINTS of a BID: part 0 above, 1 below (above 0), in least terms.");
        BidsJudged x = Make.closed(30);
        points(x, "3-p", -27, 1);
        points(x, "10/(0-p)", -1, 3);
        points(x, "(0-10)/(0-p)", 1, 3);
        points(x, "(0-6)/4", -3, 2);
        points(x, "0/p", 0, 1);
        points(x, "p-p", 0, 1);
    }

    private static void pointsAreRefused() {
        Check.says("in least terms. Refused as told: -1; -2; -5; -7.");
        BidsJudged x = Make.closed(30, 40);
        for (int n : NOBODY) {
            Check.due("bidder " + n, x.points(n, 0, 0), REFUSED + 1);
            Check.due("lot " + n, x.points(0, n, 0), REFUSED + 1);
        }
        Check.due("lot 1 of 1", x.points(0, 1, 0), REFUSED + 1);
        for (int part : NO_PART) {
            Check.due("part " + part, x.points(0, 0, part), REFUSED + 2);
        }
        Check.due("no bid", x.points(2, 0, 0), REFUSED + 5);
        x.out(1, 0, true);
        Check.due("it doesn't stand", x.points(1, 0, 0), REFUSED + 5);
        Check.formula(x, "1/0");
        Check.due("broken", x.points(0, 0, 0), REFUSED + 7);
        Check.due("broken, below", x.points(0, 0, 1), REFUSED + 7);
    }
}
