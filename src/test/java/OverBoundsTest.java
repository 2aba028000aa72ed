/**
 * What a fraction that is beyond a long makes OVER, in promises 18 and 23 to 28: each product and each sum that
 * the document names, the last one that is taken beside the first one that is refused.
 */
public final class OverBoundsTest {
    private static final long MOST = Long.MAX_VALUE;
    private static final long LEAST = Long.MIN_VALUE;
    private static final long HALF = 1L << 62;
    /** 1 by 2 to the 62. */
    private static final String FINE = "1/256*1/512*1/512*1/512*1/512*1/512*1/512";
    /** Times one another they are 1 by (2 to the 63, less 32768): the last one that is taken. */
    private static final String LAST_ONE = "1/512*1/832*1/765";
    private static final String LAST_OTHER = "1/679*1/241*1/257*1/673";
    private static final long LAST_ONE_BELOW = 512L * 832 * 765;
    private static final long LAST_OTHER_BELOW = 679L * 241 * 257 * 673;
    /** Times one another they are 1 by (2 to the 63 and 3232 more). */
    private static final String BEYOND_ONE = "1/480*1/3*1/409*1/761";
    private static final String BEYOND_OTHER = "1/167*1/167*1/859*1/859";
    /** 3 times what is below the line is the last one that is taken, and the one beyond. */
    private static final String LAST_THIRD = "1/512*1/832*1/255*1/679*1/241*1/257*1/673";
    private static final String BEYOND_THIRD = "1/480*1/167*1/167*1/409*1/761*1/859*1/859";
    private static final long LAST_THIRD_BELOW = Checks.FINEST_BELOW / 3;

    public static void main(String[] args) {
        whatIsRead();
        sumOfWholeOnes();
        productsOfASum();
        sumAheadOfLowestTerms();
        belowTheLineOfASum();
        lessIsPlusMinusOnce();
        aboveTheLineOfAProduct();
        reducedAheadOfAProduct();
        belowTheLineOfAProduct();
        coefficientsAheadOfJoint();
        orderOfTimes();
        placesOfFaults();
        placesOfAveragingFaults();
        liftAbove();
        liftBelow();
        liftSum();
        averageAboveAndBelow();
        averageSum();
        boundIsOver();
        boundOfFarOnes();
        boundOfSmallOnes();
        valueAboveAndBelow();
        valueSum();
        valueAtAboveAndBelow();
        valueAtSum();
        nothingIsOverByZero();
        Checks.end();
    }

    private static String sign(int what) {
        return what == Checks.PLUS ? "+" : what == Checks.LESS ? "-" : "*";
    }

    private static void comesTo(String one, int what, String other, long above, long below) {
        String call = "(" + one + ")" + sign(what) + "(" + other + ")";
        DensitiesOfNets x = Checks.holding(one, other);
        Checks.due("makes of " + call, x.makes(0, 1, what, 2), 1);
        Checks.due("term of " + call, x.term(2, 0), 0);
        Checks.fraction(call, x.coefficient(2, 0, 0), x.coefficient(2, 0, 1), above, below);
        if (call.length() <= 60) {
            Checks.due("read of " + call, Checks.read(x, 3, call), 1);
            Checks.fraction("read of " + call, x.coefficient(3, 0, 0), x.coefficient(3, 0, 1), above, below);
        }
    }

    private static void isOver(String one, int what, String other) {
        String call = "(" + one + ")" + sign(what) + "(" + other + ")";
        Checks.leavesAll("makes of " + call, () -> Checks.holding(one, other), Checks.OVER,
            x -> x.makes(0, 1, what, 2));
        Checks.leavesAll("makes into the first of " + call, () -> Checks.holding(one, other), Checks.OVER,
            x -> x.makes(0, 1, what, 0));
        if (call.length() <= 60) {
            Checks.reads(call, -5000 - one.length() - 2);
        }
    }

    // ---- fractions

    private static void whatIsRead() {
        Checks.about("the greatest and the least long, and what is finest, are not beyond a long");
        DensitiesOfNets x = Checks.holding(Checks.GREATEST, Checks.LEAST, Checks.HALF, Checks.FINEST);
        Checks.holds(x, 0, 0, MOST, 1);
        Checks.holds(x, 1, 0, LEAST, 1);
        Checks.holds(x, 2, 0, HALF, 1);
        Checks.holds(x, 3, 0, 1, Checks.FINEST_BELOW);
    }

    private static void sumOfWholeOnes() {
        Checks.about("or that sum, is beyond a long");
        comesTo(Checks.GREATEST, Checks.PLUS, "0-1", MOST - 1, 1);
        comesTo(Checks.GREATEST + "-1", Checks.PLUS, "1", MOST, 1);
        isOver(Checks.GREATEST, Checks.PLUS, "1");
        isOver("1", Checks.PLUS, Checks.GREATEST);
        isOver(Checks.GREATEST, Checks.PLUS, Checks.GREATEST);
        comesTo("0-" + Checks.GREATEST, Checks.LESS, "1", LEAST, 1);
        isOver("0-" + Checks.GREATEST, Checks.LESS, "2");
        comesTo(Checks.LEAST, Checks.PLUS, "1", LEAST + 1, 1);
        isOver(Checks.LEAST, Checks.PLUS, "0-1");
        isOver(Checks.LEAST, Checks.LESS, "1");
        isOver(Checks.LEAST, Checks.PLUS, Checks.LEAST);
        comesTo(Checks.GREATEST, Checks.PLUS, Checks.LEAST, -1, 1);
        // 6148914691236517205, whose bits and those of twice as much are the opposite of one another
        String third = "5*17*257*641*(65*999+602)*((6*999+713)*999+124)";
        isOver(third, Checks.PLUS, third);
        comesTo(third, Checks.PLUS, Checks.LEAST, LEAST / 3 - 1, 1);
        comesTo(Checks.LEAST, Checks.PLUS, Checks.GREATEST, -1, 1);
        DensitiesOfNets x = Checks.holding(Checks.GREATEST, "0-" + Checks.GREATEST);
        Checks.due("to nothing", x.makes(0, 0, Checks.LESS, 2), 0);
        Checks.due("to nothing", x.makes(0, 1, Checks.PLUS, 2), 0);
        Checks.due("less and less", x.makes(1, 0, Checks.LESS, 2), Checks.OVER);
    }

    private static void productsOfASum() {
        Checks.about("a times (d by g), c times (b by g)");
        comesTo(Checks.HALF + "-1", Checks.PLUS, "1/2", MOST, 2);
        isOver(Checks.HALF, Checks.PLUS, "1/2");
        isOver(Checks.HALF, Checks.LESS, "1/2");
        isOver(Checks.HALF, Checks.PLUS, "0-1/2");
        comesTo("1/2", Checks.PLUS, Checks.HALF + "-1", MOST, 2);
        isOver("1/2", Checks.PLUS, Checks.HALF);
        isOver("0-1/2", Checks.PLUS, Checks.HALF);
        comesTo("0-" + Checks.HALF, Checks.PLUS, "1/2", LEAST + 1, 2);
        isOver("0-" + Checks.HALF, Checks.LESS, "1/2");
        isOver("0-" + Checks.HALF + "-1", Checks.PLUS, "3/2");
        comesTo("1/2", Checks.LESS, Checks.HALF, LEAST + 1, 2);
        isOver("3/2", Checks.LESS, Checks.HALF + "+1");
        // by g the products stay small
        comesTo(Checks.HALF + "*1/9", Checks.PLUS, "1/9", HALF + 1, 9);
        comesTo(Checks.GREATEST + "*1/9-1/9", Checks.PLUS, "1/9", MOST, 9);
        isOver(Checks.GREATEST + "*1/9", Checks.PLUS, "1/9");
        isOver(Checks.GREATEST + "*1/9", Checks.PLUS, "0-1/2");
    }

    private static void sumAheadOfLowestTerms() {
        Checks.about("a sum beyond a long is OVER, also if it would not be in lowest terms");
        String below = "(" + Checks.HALF + "-1)*1/2";
        String above = "(" + Checks.HALF + "+1)*1/2";
        comesTo(below, Checks.PLUS, below, HALF - 1, 1);
        isOver(below, Checks.PLUS, above);
        isOver(Checks.GREATEST + "*1/2", Checks.PLUS, "1/2");
        comesTo(Checks.GREATEST + "*1/2", Checks.LESS, "1/2", HALF - 1, 1);
        comesTo("1/6", Checks.PLUS, "1/3", 1, 2);
        comesTo("1/6", Checks.LESS, "2/3", -1, 2);
    }

    private static void belowTheLineOfASum() {
        Checks.about("b times (d by g)");
        comesTo(LAST_ONE, Checks.PLUS, LAST_OTHER, LAST_ONE_BELOW + LAST_OTHER_BELOW, Checks.FINEST_BELOW);
        comesTo(LAST_ONE, Checks.LESS, LAST_OTHER, LAST_OTHER_BELOW - LAST_ONE_BELOW, Checks.FINEST_BELOW);
        isOver(BEYOND_ONE, Checks.PLUS, BEYOND_OTHER);
        isOver(BEYOND_ONE, Checks.LESS, BEYOND_OTHER);
        comesTo(FINE, Checks.PLUS, FINE, 1, HALF / 2);
        comesTo(FINE, Checks.PLUS, "1/2", HALF / 2 + 1, HALF);
        comesTo("1/2", Checks.LESS, FINE, HALF / 2 - 1, HALF);
        isOver(FINE, Checks.PLUS, "1/3");
        isOver("1/3", Checks.LESS, FINE);
    }

    private static void lessIsPlusMinusOnce() {
        Checks.about("less is: plus -1 times it");
        comesTo("0-1", Checks.LESS, Checks.GREATEST, LEAST, 1);
        isOver("0-2", Checks.LESS, Checks.GREATEST);
        // the sum would be the greatest long, but 1 times the least one less is OVER
        isOver("0-1", Checks.LESS, Checks.LEAST);
        isOver("0", Checks.LESS, Checks.LEAST);
        isOver(Checks.LEAST, Checks.LESS, Checks.LEAST);
        isOver("1", Checks.LESS, Checks.LEAST + "*1/3");
        comesTo("0", Checks.PLUS, Checks.LEAST, LEAST, 1);
        comesTo("0", Checks.LESS, "1+" + Checks.LEAST, MOST, 1);
        comesTo(Checks.LEAST, Checks.LESS, "0", LEAST, 1);
        comesTo(Checks.LEAST, Checks.LESS, "0-1", LEAST + 1, 1);
    }

    private static void aboveTheLineOfAProduct() {
        Checks.about("above times above");
        comesTo("49*73*127*337", Checks.TIMES, "(93*997+16)*(651*997+610)", MOST, 1);
        isOver(Checks.HALF, Checks.TIMES, "2");
        isOver("2", Checks.TIMES, Checks.HALF);
        comesTo("0-" + Checks.HALF, Checks.TIMES, "2", LEAST, 1);
        comesTo(Checks.HALF, Checks.TIMES, "0-2", LEAST, 1);
        isOver("0-" + Checks.HALF, Checks.TIMES, "3");
        isOver("0-" + Checks.HALF, Checks.TIMES, "0-2");
        comesTo(Checks.HALF + "-1", Checks.TIMES, "2", MOST - 1, 1);
        comesTo(Checks.LEAST, Checks.TIMES, "1", LEAST, 1);
        comesTo("1", Checks.TIMES, Checks.LEAST, LEAST, 1);
        isOver(Checks.LEAST, Checks.TIMES, "0-1");
        isOver("0-1", Checks.TIMES, Checks.LEAST);
        comesTo(Checks.GREATEST, Checks.TIMES, "0-1", -MOST, 1);
        comesTo("0-1", Checks.TIMES, "0-" + Checks.GREATEST, MOST, 1);
        isOver(Checks.GREATEST, Checks.TIMES, "2");
        isOver(Checks.GREATEST, Checks.TIMES, "999");
        isOver(Checks.GREATEST, Checks.TIMES, Checks.GREATEST);
        isOver(Checks.LEAST, Checks.TIMES, Checks.LEAST);
        isOver(Checks.LEAST, Checks.TIMES, "2");
        // the product wraps round to a small one
        isOver(Checks.HALF, Checks.TIMES, "4");
        isOver("512*512*512*512", Checks.TIMES, "512*512*512*512");
        isOver("512*512*512*512+1", Checks.TIMES, "512*512*512*512");
    }

    private static void reducedAheadOfAProduct() {
        Checks.about("each of a, d by the greatest that divides both, each of c, b likewise, then above times above");
        comesTo(Checks.LEAST, Checks.TIMES, "1/2", -HALF, 1);
        comesTo(Checks.LEAST, Checks.TIMES, "0-1/2", HALF, 1);
        comesTo("0-1/2", Checks.TIMES, Checks.LEAST, HALF, 1);
        comesTo(Checks.LEAST, Checks.TIMES, "1/3", LEAST, 3);
        comesTo(Checks.LEAST, Checks.TIMES, FINE, -2, 1);
        comesTo(FINE, Checks.TIMES, Checks.LEAST, -2, 1);
        isOver(Checks.LEAST, Checks.TIMES, "0-1/3");
        comesTo(Checks.GREATEST, Checks.TIMES, "2/7", MOST / 7 * 2, 1);
        comesTo("2/7", Checks.TIMES, Checks.GREATEST, MOST / 7 * 2, 1);
        isOver(Checks.GREATEST, Checks.TIMES, "2/3");
        comesTo(Checks.GREATEST, Checks.TIMES, "1/3", MOST, 3);
        comesTo(FINE, Checks.TIMES, "2", 1, HALF / 2);
        comesTo(FINE, Checks.TIMES, Checks.HALF, 1, 1);
        comesTo("6/35", Checks.TIMES, "14/15", 4, 25);
        comesTo("0-6/35", Checks.TIMES, "14/15", -4, 25);
    }

    private static void belowTheLineOfAProduct() {
        Checks.about("below times below");
        comesTo(LAST_ONE, Checks.TIMES, LAST_OTHER, 1, Checks.FINEST_BELOW);
        isOver(BEYOND_ONE, Checks.TIMES, BEYOND_OTHER);
        isOver(FINE, Checks.TIMES, "1/2");
        isOver("1/2", Checks.TIMES, FINE);
        isOver(FINE, Checks.TIMES, "1/4");
        isOver(FINE, Checks.TIMES, FINE);
        comesTo(FINE, Checks.TIMES, "2/3", 1, HALF / 2 * 3);
        isOver(FINE, Checks.TIMES, "2/5");
        isOver(FINE, Checks.TIMES, "0-1/2");
        comesTo(FINE, Checks.TIMES, "0-1", -1, HALF);
    }

    // ---- TIMES

    private static void coefficientsAheadOfJoint() {
        Checks.about("the COEFFICIENTS of f and g, times one another: worked out, and perhaps OVER");
        // all JOINTS of [2] and [201] are 1, 2 or 3 by 6, so all that comes would be taken
        String one = "32*512*512*512*[2]";
        Checks.leavesAll("3 times 2 to the 62",
            () -> Checks.holding(one, "3*8*512*512*512*[201]"), Checks.OVER, x -> x.makes(0, 1, Checks.TIMES, 3));
        DensitiesOfNets x = Checks.holding(one, "3*4*512*512*512*[201]");
        Checks.must("half as much", x.makes(0, 1, Checks.TIMES, 3) > 0);
        Checks.reads("32*512*512*512*[2]*(24*512*512*512*[201])", -5018);
        Checks.about("(the COEFFICIENTS, times one another) times JOINT");
        // JOINT of [201] and [1] is 1 by 3 in [301]
        Checks.leavesAll("below, by JOINT", () -> Checks.holding(BEYOND_THIRD + "*[201]", "[1]"), Checks.OVER,
            y -> y.makes(0, 1, Checks.TIMES, 1));
        x = Checks.holding(LAST_THIRD + "*[201]", "[1]");
        Checks.due("below, by JOINT", x.makes(0, 1, Checks.TIMES, 2), 3);
        Checks.holds(x, 2, 5, 1, Checks.FINEST_BELOW, 6, 1, Checks.FINEST_BELOW / 2, 7, 1, LAST_THIRD_BELOW);
        Checks.leavesAll("above, by JOINT", () -> Checks.holding(Checks.HALF + "*[201]", "[1]"), Checks.OVER,
            y -> y.makes(0, 1, Checks.TIMES, 1));
        x = Checks.holding("0-" + Checks.HALF + "*[201]", "[1]");
        Checks.due("above, by JOINT", x.makes(0, 1, Checks.TIMES, 2), 3);
        Checks.holds(x, 2, 5, -HALF, 3, 6, LEAST, 3, 7, -HALF, 1);
    }

    private static void orderOfTimes() {
        Checks.about("for each TERM f of the one, for each TERM g of the other one: is added to what H has");
        // in [2]: the greatest long, 1 more, 1 less
        Checks.leavesAll("the last one comes too late",
            () -> Checks.holding(Checks.GREATEST + "-[1]-[2]", "1-[1]+[2]"), Checks.OVER,
            x -> x.makes(0, 1, Checks.TIMES, 2));
        // in [2]: 3 less, 3 more, the greatest long less 1
        DensitiesOfNets x = Checks.holding("3-3*[1]+(" + Checks.GREATEST + "-1)*[2]", "1-[1]-[2]");
        Checks.must("the first one comes in time", x.makes(0, 1, Checks.TIMES, 2) > 0);
        Checks.due("term(2, 2)", x.term(2, 2), 2);
        Checks.due("coefficient(2, 2, 0)", x.coefficient(2, 2, 0), MOST - 1);
        Checks.due("the other way round", x.makes(1, 0, Checks.TIMES, 2), Checks.OVER);
    }

    // ---- faults of kind 5

    private static void placesOfFaults() {
        Checks.about("kind 5 that of a sign by which anything is OVER");
        Checks.reads(Checks.GREATEST + "+0", 1);
        Checks.reads(Checks.GREATEST + "+1", -5039);
        Checks.reads(Checks.GREATEST + "-1+1+1", -5043);
        Checks.reads("1+" + Checks.GREATEST, -5001);
        Checks.reads("0-" + Checks.GREATEST + "-1", 1);
        Checks.reads("0-" + Checks.GREATEST + "-2", -5041);
        Checks.reads(Checks.LEAST, 1);
        Checks.reads("0+" + Checks.LEAST, 1);
        Checks.reads("0-" + Checks.LEAST, -5001);
        Checks.reads("(" + Checks.LEAST + ")*1", 1);
        Checks.reads(Checks.LEAST + "*(0-1)", -5031);
        Checks.reads("(0-1)*(" + Checks.LEAST + ")", -5005);
        Checks.reads("(0-1)*" + Checks.LEAST, -5033);
        Checks.reads(Checks.HALF + "*2", -5027);
        Checks.reads("(" + Checks.HALF + "*2)*0", -5028);
        Checks.reads("0*(" + Checks.HALF + "*2)", -5030);
        Checks.reads("0*" + Checks.HALF + "*2", 0);
        Checks.reads(Checks.HALF + "+" + Checks.HALF, -5027);
        Checks.reads(Checks.HALF + "-1+" + Checks.HALF, 1);
        Checks.reads(FINE + "*1/2", -5041);
        Checks.reads(FINE + "+1/3", -5041);
        Checks.reads(FINE + "-1/3", -5041);
        Checks.reads(FINE + "*2*1/2", 1);
        Checks.reads(Checks.GREATEST + "*[1]+[1]", -5043);
        Checks.reads(Checks.GREATEST + "*[1]+[2]", 2);
        Checks.reads(Checks.GREATEST + "*<1>+1", -5043);
        Checks.reads(Checks.LEAST + "*[1]-[1]", -5035);
    }

    private static void placesOfAveragingFaults() {
        Checks.about("kind 5 that of a { by which anything is OVER");
        Checks.reads("{" + LAST_THIRD + "*<312>}", 1);
        Checks.reads("{" + BEYOND_THIRD + "*<312>}", -5000);
        Checks.reads("1+{" + BEYOND_THIRD + "*<312>}", -5002);
        Checks.reads("({" + BEYOND_THIRD + "*<312>})", -5001);
        Checks.reads("{" + Checks.HALF + "*<301>}", -5000);
        Checks.reads("{(0-" + Checks.HALF + ")*<301>}", 1);
        Checks.reads("{" + Checks.LEAST + "*<301>}", -5000);
        Checks.reads("{" + Checks.LEAST + "*<312>}", 1);
        Checks.reads("{" + Checks.GREATEST + "*<201>}", 1);
        Checks.reads("{" + Checks.GREATEST + "+1}", -5040);
        Checks.reads("{" + Checks.GREATEST + "}", 1);
    }

    // ---- lift, average

    private static void liftAbove() {
        Checks.about("lift: OVER above the line: [201] has 2 by 3 in [30112]");
        Checks.leavesAll("2 to the 62", () -> Checks.holding(Checks.HALF + "*[201]"), Checks.OVER, x -> x.lift(0, 3));
        DensitiesOfNets x = Checks.holding("0-" + Checks.HALF + "*[201]", "(" + Checks.HALF + "-2)*[201]",
            "(" + Checks.HALF + "-1)*[201]", Checks.GREATEST + "*[1]");
        Checks.due("-2 to the 62", x.lift(0, 3), 3);
        Checks.holds(x, 0, 5, -HALF, 3, 6, LEAST, 3, 7, -HALF, 1);
        Checks.due("2 to the 62, less 2", x.lift(1, 3), 3);
        Checks.holds(x, 1, 5, HALF - 2, 3, 6, MOST - 3, 3, 7, HALF - 2, 1);
        Checks.due("3 divides it", x.lift(2, 3), 3);
        Checks.holds(x, 2, 5, (HALF - 1) / 3, 1, 6, (HALF - 1) / 3 * 2, 1, 7, HALF - 1, 1);
        Checks.due("the greatest, times 1", x.lift(3, 2), 2);
        Checks.holds(x, 3, 2, MOST, 1, 3, MOST, 1);
        Checks.leavesAll("the greatest", () -> Checks.holding(Checks.GREATEST + "*[201]"), Checks.OVER,
            y -> y.lift(0, 3));
    }

    private static void liftBelow() {
        Checks.about("lift: OVER below the line: [201] has 1 by 3 in [301]");
        DensitiesOfNets x = Checks.holding(LAST_THIRD + "*[201]");
        Checks.due("the last one", x.lift(0, 3), 3);
        Checks.holds(x, 0, 5, 1, Checks.FINEST_BELOW, 6, 1, Checks.FINEST_BELOW / 2, 7, 1, LAST_THIRD_BELOW);
        Checks.leavesAll("one beyond", () -> Checks.holding(BEYOND_THIRD + "*[201]"), Checks.OVER, y -> y.lift(0, 3));
        Checks.leavesAll("2 to the 62", () -> Checks.holding(FINE + "*[2]"), Checks.OVER, y -> y.lift(0, 3));
        DensitiesOfNets same = Checks.holding(BEYOND_THIRD + "*[201]");
        Checks.due("to its own SIZE", same.lift(0, 2), 1);
        DensitiesOfNets none = Checks.holding(Checks.FINEST + "*[0]");
        Checks.due("FLAG 0 is everywhere", none.lift(0, 4), 11);
        Checks.due("coefficient", none.coefficient(0, 10, 1), Checks.FINEST_BELOW);
    }

    private static void liftSum() {
        Checks.about("lift: OVER by the sum, for each TERM by numbers");
        Checks.leavesAll("one more", () -> Checks.holding(Checks.GREATEST + "+[1]"), Checks.OVER, x -> x.lift(0, 1));
        Checks.leavesAll("one more, then one less", () -> Checks.holding(Checks.GREATEST + "+[1]-[2]"), Checks.OVER,
            x -> x.lift(0, 2));
        DensitiesOfNets x = Checks.holding(Checks.GREATEST + "-[1]+[2]", Checks.GREATEST + "-1+[1]");
        Checks.due("one less, then one more", x.lift(0, 2), 2);
        Checks.holds(x, 0, 2, MOST, 1, 3, MOST - 1, 1);
        Checks.due("just the greatest", x.lift(1, 1), 1);
        Checks.holds(x, 1, 1, MOST, 1);
        x = Checks.holding("[1]-1", "[1]-[2]-[201]");
        Checks.due("to nothing", x.lift(0, 1), 0);
        Checks.due("to nothing", x.lift(1, 2), 0);
    }

    private static void averageAboveAndBelow() {
        Checks.about("average: OVER by a product: <301> has 2 by 3, <312> 1 by 3");
        Checks.leavesAll("2 to the 62", () -> Checks.holding(Checks.HALF + "*<301>"), Checks.OVER, x -> x.average(0));
        DensitiesOfNets x = Checks.holding("0-" + Checks.HALF + "*<301>", Checks.GREATEST + "*<312>",
            LAST_THIRD + "*<312>", Checks.GREATEST + "*<201>");
        Checks.due("-2 to the 62", x.average(0), 1);
        Checks.holds(x, 0, 5, LEAST, 3);
        Checks.due("the greatest, by 3", x.average(1), 1);
        Checks.holds(x, 1, 5, MOST, 3);
        Checks.due("the last one below the line", x.average(2), 1);
        Checks.holds(x, 2, 5, 1, Checks.FINEST_BELOW);
        Checks.due("the greatest, times 1", x.average(3), 1);
        Checks.holds(x, 3, 3, MOST, 1);
        Checks.leavesAll("one beyond below", () -> Checks.holding(BEYOND_THIRD + "*<312>"), Checks.OVER,
            y -> y.average(0));
        Checks.leavesAll("the greatest", () -> Checks.holding(Checks.GREATEST + "*<301>"), Checks.OVER,
            y -> y.average(0));
        Checks.leavesAll("the least", () -> Checks.holding(Checks.LEAST + "*<301>"), Checks.OVER, y -> y.average(0));
    }

    private static void averageSum() {
        Checks.about("average: OVER by the sum, for each TERM by numbers");
        // 2 times (2 to the 62, less 2), and 3 or 4, by 3
        DensitiesOfNets x = Checks.holding("(" + Checks.HALF + "-2)*<301>+3*<312>");
        Checks.due("just the greatest", x.average(0), 1);
        Checks.holds(x, 0, 5, MOST, 3);
        Checks.leavesAll("one more", () -> Checks.holding("(" + Checks.HALF + "-2)*<301>+4*<312>"), Checks.OVER,
            y -> y.average(0));
        // the three roots of FLAG 10, by numbers: 1 by 4, 2 by 4, 1 by 4
        Checks.leavesAll("2 more, then 3 less", () -> added(Checks.GREATEST + "*<40102>", "<40112>-3*<41223>"),
            Checks.OVER, y -> y.average(0));
        x = added("<40112>-3*<40102>", Checks.GREATEST + "*<41223>");
        Checks.due("3 less, then 2 more", x.average(0), 1);
        Checks.holds(x, 0, 10, HALF - 1, 2);
        x = Checks.holding("<301>-2*<312>", "<301>-2*<312>+<1>");
        Checks.due("to nothing", x.average(0), 0);
        Checks.due("to nothing but one", x.average(1), 1);
        Checks.holds(x, 1, 1, 1, 1);
    }

    private static DensitiesOfNets added(String one, String other) {
        DensitiesOfNets x = Checks.holding(one, other);
        Checks.must("both are added", x.makes(0, 1, Checks.PLUS, 0) >= 0);
        return x;
    }

    // ---- bound

    private static void boundIsOver() {
        Checks.about("bound: NO: OVER");
        String[] over = {Checks.HALF + "*[201]", BEYOND_THIRD + "*[201]", Checks.GREATEST + "*[2]",
            Checks.GREATEST + "+[1]", Checks.GREATEST + "+[1]-[2]", "0-" + Checks.GREATEST + "-2*[1]"};
        for (String text : over) {
            for (int which = 0; which <= 1; which++) {
                for (int part = 0; part <= 1; part++) {
                    int asked = which;
                    int ofPart = part;
                    Checks.leavesAll("bound of " + text, () -> Checks.holding(text), Checks.NO,
                        x -> x.bound(0, 3, asked, ofPart));
                }
            }
        }
        DensitiesOfNets x = Checks.holding("0-" + Checks.HALF + "*[201]", LAST_THIRD + "*[201]",
            Checks.GREATEST + "-[1]+[2]", "0-" + Checks.GREATEST + "-[1]");
        Checks.fraction("least", x.bound(0, 3, 0, 0), x.bound(0, 3, 0, 1), -HALF, 1);
        Checks.fraction("greatest", x.bound(0, 3, 1, 0), x.bound(0, 3, 1, 1), 0, 1);
        Checks.fraction("greatest", x.bound(1, 3, 1, 0), x.bound(1, 3, 1, 1), 1, LAST_THIRD_BELOW);
        Checks.fraction("least", x.bound(1, 3, 0, 0), x.bound(1, 3, 0, 1), 0, 1);
        Checks.fraction("greatest", x.bound(2, 2, 1, 0), x.bound(2, 2, 1, 1), MOST, 1);
        Checks.fraction("least", x.bound(2, 2, 0, 0), x.bound(2, 2, 0, 1), MOST - 1, 1);
        Checks.fraction("the least long", x.bound(3, 4, 0, 0), x.bound(3, 4, 0, 1), LEAST, 1);
        Checks.fraction("the least long", x.bound(3, 4, 1, 0), x.bound(3, 4, 1, 1), LEAST, 1);
    }

    /** The least and the greatest of [2] and [201] that STORE 0 holds. */
    private static void bounds(DensitiesOfNets x, String which, long least, long leastBelow, long most,
            long mostBelow) {
        Checks.fraction("least of " + which, x.bound(0, 2, 0, 0), x.bound(0, 2, 0, 1), least, leastBelow);
        Checks.fraction("greatest of " + which, x.bound(0, 2, 1, 0), x.bound(0, 2, 1, 1), most, mostBelow);
    }

    private static void boundOfFarOnes() {
        Checks.about("the least, the greatest, of those that are far and of those that are near");
        String[] nets = {"*[2]", "*[201]"};
        for (int first = 0; first < 2; first++) {
            String one = nets[first];
            String other = nets[1 - first];
            bounds(added(Checks.GREATEST + one, Checks.LEAST + other), "the farthest", LEAST, 1, MOST, 1);
            bounds(added(Checks.GREATEST + "*1/998" + one, Checks.GREATEST + "*1/999" + other), "the greatest by some",
                MOST, 999, MOST, 998);
            bounds(added("0-" + Checks.GREATEST + "*1/998" + one, "0-" + Checks.GREATEST + "*1/999" + other),
                "that less than 0", -MOST, 998, -MOST, 999);
            bounds(added(Checks.LEAST + "*1/3" + one, Checks.LEAST + "*1/5" + other), "the least by some",
                LEAST, 3, LEAST, 5);
            bounds(added(Checks.FINEST + one, FINE + other), "the finest", 1, Checks.FINEST_BELOW, 1, HALF);
            bounds(added("0-" + Checks.FINEST + one, FINE + other), "the finest beside 0", -1, Checks.FINEST_BELOW,
                1, HALF);
            bounds(added("(1/2+" + FINE + ")" + one, "(1/2-" + FINE + ")" + other), "both beside a half",
                HALF / 2 - 1, HALF, HALF / 2 + 1, HALF);
            bounds(added("7" + one, "7" + other), "like ones", 7, 1, 7, 1);
            bounds(added("5/2" + one, "7/3" + other), "the same whole part", 7, 3, 5, 2);
            bounds(added("2" + one, "7/3" + other), "a whole one", 2, 1, 7, 3);
            bounds(added("0-2" + one, "0-7/3" + other), "a whole one less than 0", -7, 3, -2, 1);
        }
    }

    private static void boundOfSmallOnes() {
        Checks.about("the least, the greatest, of all by up to 9, and of those hard to tell apart");
        for (int b = 1; b <= 9; b++) {
            for (int d = 1; d <= 9; d++) {
                for (int a = -9; a <= 9; a++) {
                    for (int c = a; c <= 9; c += 2) {
                        smallBounds(a, b, c, d);
                    }
                }
            }
        }
        int one = 1;
        int next = 1;
        int third = 2;
        while (third < 999) {
            smallBounds(next, one, third, next);
            smallBounds(third, next, next, one);
            smallBounds(-next, one, -third, next);
            smallBounds(next, third, one, next);
            one = next;
            next = third;
            third = one + next;
        }
    }

    private static void smallBounds(int a, int b, int c, int d) {
        DensitiesOfNets x = Checks.holding(text(a, b) + "*[2]+" + text(c, d) + "*[201]");
        boolean isLess = a * d < c * b;
        for (int which = 0; which <= 1; which++) {
            boolean isFirst = which == 0 == isLess;
            int above = isFirst ? a : c;
            int below = isFirst ? b : d;
            long gotAbove = x.bound(0, 2, which, 0);
            long gotBelow = x.bound(0, 2, which, 1);
            Checks.must("bound " + which + " of " + a + "/" + b + " and " + c + "/" + d,
                    gotBelow > 0 && gotAbove * below == above * gotBelow);
        }
    }

    private static String text(int above, int below) {
        return above < 0 ? "(0-" + -above + "/" + below + ")" : above + "/" + below;
    }

    // ---- value, valueAt

    private static DensitiesOfNets inHand(DensitiesOfNets x, int points, int... ends) {
        Checks.draw(x, points, ends);
        return x;
    }

    private static void valueAboveAndBelow() {
        Checks.about("value: NO: OVER by a product: a row of three has 2 by 3 of [201]");
        String[] texts = {Checks.HALF + "*[201]", Checks.GREATEST + "*[201]", BEYOND_THIRD + "*[2]", FINE + "*[2]",
            Checks.LEAST + "*[201]"};
        for (String text : texts) {
            for (int part = 0; part <= 1; part++) {
                int ofPart = part;
                Checks.leavesAll("value of " + text, () -> inHand(Checks.holding(text), 3, 0, 1, 1, 2), Checks.NO,
                    x -> x.value(0, ofPart));
            }
        }
        DensitiesOfNets x = Checks.holding("0-" + Checks.HALF + "*[201]", "(" + Checks.HALF + "-2)*[201]",
            LAST_THIRD + "*[2]", Checks.GREATEST + "*[2]");
        inHand(x, 3, 0, 1, 1, 2);
        Checks.fraction("-2 to the 62", x.value(0, 0), x.value(0, 1), LEAST, 3);
        Checks.fraction("2 to the 62, less 2", x.value(1, 0), x.value(1, 1), MOST - 3, 3);
        Checks.fraction("the last one", x.value(2, 0), x.value(2, 1), 1, Checks.FINEST_BELOW);
        Checks.fraction("the greatest by 3", x.value(3, 0), x.value(3, 1), MOST, 3);
        inHand(x, 3);
        Checks.fraction("the greatest", x.value(3, 0), x.value(3, 1), MOST, 1);
        Checks.fraction("a SHARE of 0", x.value(0, 0), x.value(0, 1), 0, 1);
    }

    private static void valueSum() {
        Checks.about("value: NO: OVER by the sum, by their numbers");
        DensitiesOfNets x = Checks.holding(Checks.GREATEST + "+[1]", Checks.GREATEST + "+[1]-[2]",
            Checks.GREATEST + "-[1]+[2]", Checks.GREATEST + "+[201]");
        inHand(x, 2);
        Checks.due("one more", x.value(0, 0), Checks.NO);
        Checks.due("one more", x.value(0, 1), Checks.NO);
        Checks.due("one more, then one less", x.value(1, 1), Checks.NO);
        Checks.fraction("one less, then one more", x.value(2, 0), x.value(2, 1), MOST, 1);
        Checks.fraction("0 more", x.value(3, 0), x.value(3, 1), MOST, 1);
        inHand(x, 2, 0, 1);
        Checks.due("one more", x.value(3, 1), Checks.NO);
        Checks.fraction("one less", x.value(2, 0), x.value(2, 1), MOST - 1, 1);
    }

    private static void valueAtAboveAndBelow() {
        Checks.about("valueAt: NO: OVER by a product: POINT 1 of a row of four has 2 by 3 of <201>");
        String[] texts = {Checks.HALF + "*<201>", Checks.GREATEST + "*<201>", BEYOND_THIRD + "*<2>", FINE + "*<2>",
            Checks.LEAST + "*<201>"};
        for (String text : texts) {
            for (int part = 0; part <= 1; part++) {
                int ofPart = part;
                Checks.leavesAll("valueAt of " + text, () -> inHand(Checks.holding(text), 4, 0, 1, 1, 2, 2, 3),
                    Checks.NO, x -> x.valueAt(0, 1, ofPart));
            }
        }
        DensitiesOfNets x = Checks.holding("0-" + Checks.HALF + "*<201>", "(" + Checks.HALF + "-2)*<201>",
            LAST_THIRD + "*<2>", Checks.GREATEST + "*<2>");
        inHand(x, 4, 0, 1, 1, 2, 2, 3);
        Checks.fraction("-2 to the 62", x.valueAt(0, 1, 0), x.valueAt(0, 1, 1), LEAST, 3);
        Checks.fraction("2 to the 62, less 2", x.valueAt(1, 1, 0), x.valueAt(1, 1, 1), MOST - 3, 3);
        Checks.fraction("the last one", x.valueAt(2, 1, 0), x.valueAt(2, 1, 1), 1, Checks.FINEST_BELOW);
        Checks.fraction("the greatest by 3", x.valueAt(3, 1, 0), x.valueAt(3, 1, 1), MOST, 3);
        Checks.due("2 by 3 of the greatest", x.valueAt(3, 0, 0), Checks.NO);
    }

    private static void valueAtSum() {
        Checks.about("valueAt: NO: OVER by the sum, by their numbers");
        DensitiesOfNets x = Checks.holding(Checks.GREATEST + "*<1>+<2>", Checks.GREATEST + "*<1>+<2>-<3>",
            Checks.GREATEST + "*<1>-<2>+<3>", Checks.GREATEST + "*<1>+<201>");
        inHand(x, 3);
        Checks.due("one more", x.valueAt(0, 0, 0), Checks.NO);
        Checks.due("one more", x.valueAt(0, 0, 1), Checks.NO);
        Checks.due("one more, then one less", x.valueAt(1, 0, 1), Checks.NO);
        Checks.fraction("one less, then one more", x.valueAt(2, 0, 0), x.valueAt(2, 0, 1), MOST, 1);
        Checks.fraction("0 more", x.valueAt(3, 2, 0), x.valueAt(3, 2, 1), MOST, 1);
    }

    private static void nothingIsOverByZero() {
        Checks.about("if that isn't 0; what comes to 0 is no TERM");
        DensitiesOfNets x = Checks.holding(Checks.GREATEST + "*[1]", Checks.LEAST + "*[2]", Checks.FINEST + "*[2]",
            "0");
        for (int store = 0; store < 3; store++) {
            Checks.due("times 0", x.makes(store, 3, Checks.TIMES, 3), 0);
            Checks.due("0 times", x.makes(3, store, Checks.TIMES, 3), 0);
            Checks.due("plus 0", x.makes(store, 3, Checks.PLUS, store), 1);
            Checks.due("less 0", x.makes(store, 3, Checks.LESS, store), 1);
        }
        Checks.holds(x, 0, 1, MOST, 1);
        Checks.holds(x, 1, 2, LEAST, 1);
        Checks.holds(x, 2, 2, 1, Checks.FINEST_BELOW);
        Checks.holds(x, 3);
    }
}
