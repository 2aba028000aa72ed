/** Promises 19 to 30: STORES that hold nothing, SUMS without TERMS and with all, and what is asked of them. */
public final class SumBoundsTest {
    /** All 19 FLAGS, all 29 ROOTED ones. */
    private static final String ALL_FLAGS = "(1+[1]+[2]+[201])*(1+[1]+[2]+[201])";
    private static final String ALL_ROOTED = "(1+<2>+<201>)*(1+<2>+<201>)*(1+<2>+<201>)";

    public static void main(String[] args) {
        clearNumbers();
        clearTerms();
        sumNumbers();
        sumTwoAtOnce();
        sumTells();
        termNumbers();
        termsOfAll();
        termTwoAtOnce();
        coefficientNumbers();
        coefficientSigns();
        makesNumbers();
        makesState();
        makesBad();
        makesFull();
        makesTwoAtOnce();
        makesIntoOneOfBoth();
        makesWithoutTerms();
        makesToNothing();
        liftNumbers();
        liftSizes();
        liftBad();
        liftTwoAtOnce();
        averageNumbers();
        averageOfNegativeOnes();
        averageWithoutTerms();
        averageEach();
        boundNumbers();
        boundSizes();
        boundOfThoseThatAreNoTerms();
        valueNumbers();
        valuePoints();
        valueAtNumbers();
        valueAtPoints();
        moveNumbers();
        moveNothing();
        moveIsACopy();
        filmNumbers();
        filmPoints();
        filmShares();
        filmIsOfFlags();
        Checks.end();
    }

    private static DensitiesOfNets full() {
        return Checks.holding("1+[1]", "2*<1>+<201>", "0", "[3]");
    }

    // ---- clear

    private static void clearNumbers() {
        Checks.about("clear: NONE");
        DensitiesOfNets x = full();
        Checks.due("clear(-1)", x.clear(-1), Checks.NONE);
        Checks.due("clear(4)", x.clear(4), Checks.NONE);
        Checks.due("count(1)", x.count(1), 4);
        Checks.range("clear(..)", 0, 3, Checks.NONE, x::clear);
        Checks.holdsNothing(x, 0);
        Checks.holds(x, 1, 0, 2, 1, 2, 1, 1);
        Checks.holds(x, 2);
        Checks.holdsNothing(x, 3);
    }

    private static void clearTerms() {
        Checks.about("clear: how many TERMS it had (0: it held nothing)");
        DensitiesOfNets x = Checks.holding(ALL_FLAGS, ALL_ROOTED, "0");
        Checks.due("all FLAGS", x.clear(0), 19);
        Checks.due("again", x.clear(0), 0);
        Checks.due("all ROOTED ones", x.clear(1), 29);
        Checks.due("without TERMS", x.clear(2), 0);
        Checks.due("it held nothing", x.clear(3), 0);
        for (int store = 0; store < 4; store++) {
            Checks.holdsNothing(x, store);
        }
        Checks.due("count(1)", x.count(1), 0);
        Checks.due("count(2)", x.count(2), 0);
    }

    // ---- sum, term, coefficient

    private static void sumNumbers() {
        Checks.about("sum: NONE: store, what");
        DensitiesOfNets x = full();
        for (int what = 0; what <= 2; what++) {
            int asked = what;
            Checks.range("sum(.., " + what + ")", 0, 3, Checks.NONE, store -> x.sum(store, asked));
        }
        for (int store = 0; store <= 3; store++) {
            int asked = store;
            Checks.range("sum(" + store + ", ..)", 0, 2, Checks.NONE, what -> x.sum(asked, what));
        }
    }

    private static void sumTwoAtOnce() {
        Checks.about("sum: NONE: store, what; STATE: it holds nothing");
        DensitiesOfNets x = Checks.fresh();
        for (int store = 0; store < 4; store++) {
            for (int what = 0; what <= 2; what++) {
                Checks.due("sum(" + store + ", " + what + ")", x.sum(store, what), Checks.STATE);
            }
            Checks.due("sum(" + store + ", 3)", x.sum(store, 3), Checks.NONE);
            Checks.due("sum(" + store + ", -1)", x.sum(store, -1), Checks.NONE);
        }
    }

    private static void sums(String text, int terms, int rooted, int size) {
        DensitiesOfNets x = Checks.holding(text);
        Checks.due("sum(0, 0) of " + text, x.sum(0, 0), terms);
        Checks.due("sum(0, 1) of " + text, x.sum(0, 1), rooted);
        Checks.due("sum(0, 2) of " + text, x.sum(0, 2), size);
    }

    private static void sumTells() {
        Checks.about("sum: ROOTED (without TERMS 0), the greatest SIZE of one (-5: no TERMS)");
        sums("0", 0, 0, Checks.LACKING);
        sums("<1>-<1>", 0, 0, Checks.LACKING);
        sums("1", 1, 0, 0);
        sums("[0]", 1, 0, 0);
        sums("[1]", 1, 0, 1);
        sums("<1>", 1, 1, 1);
        sums("5+<1>", 1, 1, 1);
        sums("[201]+1", 2, 0, 2);
        sums("<201>+1", 2, 1, 2);
        sums("[4]-[3]", 2, 0, 4);
        sums("<4>-<1>", 2, 1, 4);
        sums("[4]-[4]+[3]", 1, 0, 3);
        sums("<4>-<4>+<3>", 1, 1, 3);
        sums(ALL_FLAGS, 19, 0, 4);
        sums(ALL_ROOTED, 29, 1, 4);
    }

    private static void termNumbers() {
        Checks.about("term: NONE: store, i");
        DensitiesOfNets x = full();
        Checks.range("term(0, ..)", 0, 1, Checks.NONE, i -> x.term(0, i));
        Checks.range("term(1, ..)", 0, 1, Checks.NONE, i -> x.term(1, i));
        Checks.range("term(3, ..)", 0, 0, Checks.NONE, i -> x.term(3, i));
        Checks.due("without TERMS", x.term(2, 0), Checks.NONE);
        Checks.due("without TERMS", x.term(2, 1), Checks.NONE);
        Checks.due("without TERMS", x.term(2, -1), Checks.NONE);
        Checks.due("term(-1, 0)", x.term(-1, 0), Checks.NONE);
        Checks.due("term(4, 0)", x.term(4, 0), Checks.NONE);
        Checks.due("term(least, 0)", x.term(Integer.MIN_VALUE, 0), Checks.NONE);
        Checks.due("term(greatest, 0)", x.term(Integer.MAX_VALUE, 0), Checks.NONE);
    }

    private static void termsOfAll() {
        Checks.about("TERMS by their numbers");
        DensitiesOfNets x = Checks.holding(ALL_FLAGS, ALL_ROOTED);
        for (int i = 0; i < 19; i++) {
            Checks.due("term(0, " + i + ")", x.term(0, i), i);
        }
        Checks.due("term(0, 19)", x.term(0, 19), Checks.NONE);
        for (int i = 0; i < 29; i++) {
            Checks.due("term(1, " + i + ")", x.term(1, i), i);
        }
        Checks.due("term(1, 29)", x.term(1, 29), Checks.NONE);
        x = Checks.holding("[4]+[1]-[3]+7", "<4>+<201>-<301>+2*<2>");
        Checks.holds(x, 0, 0, 7, 1, 1, 1, 1, 4, -1, 1, 8, 1, 1);
        Checks.holds(x, 1, 1, 2, 1, 2, 1, 1, 4, -1, 1, 9, 1, 1);
    }

    private static void termTwoAtOnce() {
        Checks.about("term: NONE: store, i; STATE: it holds nothing");
        DensitiesOfNets x = Checks.fresh();
        for (int store = 0; store < 4; store++) {
            Checks.due("term(" + store + ", 0)", x.term(store, 0), Checks.STATE);
            // no SUM has a TERM of a number below 0
            Checks.due("term(" + store + ", -1)", x.term(store, -1), Checks.NONE);
            Checks.due("term(" + store + ", least)", x.term(store, Integer.MIN_VALUE), Checks.NONE);
        }
        Checks.due("term(4, 0)", x.term(4, 0), Checks.NONE);
        Checks.due("term(-1, 0)", x.term(-1, 0), Checks.NONE);
    }

    private static void coefficientNumbers() {
        Checks.about("coefficient: NO: store, i, part; it holds nothing");
        DensitiesOfNets x = Checks.holding(ALL_FLAGS, ALL_ROOTED, "0");
        Checks.range("coefficient(0, .., 0)", 0, 18, Checks.NO, i -> x.coefficient(0, i, 0));
        Checks.range("coefficient(1, .., 1)", 0, 28, Checks.NO, i -> x.coefficient(1, i, 1));
        Checks.range("coefficient(0, 0, ..)", 0, 1, Checks.NO, part -> x.coefficient(0, 0, part));
        Checks.range("coefficient(1, 28, ..)", 0, 1, Checks.NO, part -> x.coefficient(1, 28, part));
        Checks.range("coefficient(.., 0, 0)", 0, 1, Checks.NO, store -> x.coefficient(store, 0, store > 1 ? 2 : 0));
        for (int part = 0; part <= 1; part++) {
            Checks.due("without TERMS", x.coefficient(2, 0, part), Checks.NO);
            Checks.due("it holds nothing", x.coefficient(3, 0, part), Checks.NO);
            Checks.due("coefficient(-1, 0, " + part + ")", x.coefficient(-1, 0, part), Checks.NO);
            Checks.due("coefficient(4, 0, " + part + ")", x.coefficient(4, 0, part), Checks.NO);
            Checks.due("coefficient(least, 0, " + part + ")", x.coefficient(Integer.MIN_VALUE, 0, part), Checks.NO);
            Checks.due("coefficient(greatest, 0, " + part + ")", x.coefficient(Integer.MAX_VALUE, 0, part), Checks.NO);
        }
        DensitiesOfNets y = full();
        Checks.due("coefficient(3, 0, 0)", y.coefficient(3, 0, 0), 1);
        Checks.due("coefficient(3, 1, 0)", y.coefficient(3, 1, 0), Checks.NO);
    }

    private static void coefficientSigns() {
        Checks.about("in lowest terms, what is below the line above 0");
        DensitiesOfNets x = Checks.holding("0-6/8*[1]", "999/111*[1]", "1/3-5/6+[1]*7/7", "0-1");
        Checks.holds(x, 0, 1, -3, 4);
        Checks.holds(x, 1, 1, 9, 1);
        Checks.holds(x, 2, 0, -1, 2, 1, 1, 1);
        Checks.holds(x, 3, 0, -1, 1);
    }

    // ---- makes

    private static void makesNumbers() {
        Checks.about("makes: NONE: stores, what");
        DensitiesOfNets x = Checks.holding("1", "2", "3", "4");
        for (int what = 0; what <= 2; what++) {
            int asked = what;
            Checks.range("makes(.., 1, " + what + ", 1)", 0, 3, Checks.NONE, one -> x.makes(one, 1, asked, 1));
            Checks.range("makes(1, .., " + what + ", 1)", 0, 3, Checks.NONE, other -> x.makes(1, other, asked, 1));
            Checks.range("makes(1, 1, " + what + ", ..)", 0, 3, Checks.NONE, to -> x.makes(1, 1, asked, to));
        }
        Checks.range("makes(0, 0, .., 0)", 0, 2, Checks.NONE, what -> x.makes(0, 0, what, 0));
        Checks.range("makes(3, 3, .., 3)", 0, 2, Checks.NONE, what -> x.makes(3, 3, what, 3));
    }

    private static void makesState() {
        Checks.about("makes: STATE: either of the two holds nothing");
        for (int what = 0; what <= 2; what++) {
            DensitiesOfNets x = Checks.holding("1", "0");
            Checks.due("makes(0, 2, .., 1)", x.makes(0, 2, what, 1), Checks.STATE);
            Checks.due("makes(2, 0, .., 1)", x.makes(2, 0, what, 1), Checks.STATE);
            Checks.due("makes(2, 3, .., 1)", x.makes(2, 3, what, 1), Checks.STATE);
            Checks.due("makes(2, 2, .., 2)", x.makes(2, 2, what, 2), Checks.STATE);
            Checks.holds(x, 1);
            Checks.due("what it is put into may hold nothing", x.makes(0, 1, what, 3), what == 2 ? 0 : 1);
            Checks.due("without TERMS is not nothing", x.makes(1, 1, what, 2), 0);
            Checks.holds(x, 2);
        }
    }

    private static void makesBad() {
        Checks.about("makes: BAD: one is of FLAGS, the other of ROOTED ones (with TERMS both)");
        String[] flags = {"1", "[0]", "[1]", "[4]"};
        for (String text : flags) {
            for (int what = 0; what <= 2; what++) {
                int asked = what;
                Checks.leavesAll(text + " and <1>", () -> Checks.holding(text, "<1>"), Checks.BAD,
                    x -> x.makes(0, 1, asked, 2));
                Checks.leavesAll("<1> and " + text, () -> Checks.holding(text, "<1>"), Checks.BAD,
                    x -> x.makes(1, 0, asked, 0));
                DensitiesOfNets x = Checks.holding(text, "<4>", "[1]-[1]", "<1>-<1>");
                for (int store = 0; store < 2; store++) {
                    for (int none = 2; none < 4; none++) {
                        Checks.must(text + " and without TERMS", x.makes(store, none, what, none) >= 0);
                        x.clear(none);
                        Checks.read(x, none, "0");
                        Checks.must("without TERMS and " + text, x.makes(none, store, what, none) >= 0);
                        x.clear(none);
                        Checks.read(x, none, none == 2 ? "[1]-[1]" : "<1>-<1>");
                    }
                }
            }
        }
    }

    private static void makesFull() {
        Checks.about("makes: FULL: a SIZE would be above 4 (what 2)");
        for (int one = 0; one <= 4; one++) {
            for (int other = 0; other <= 4; other++) {
                String flags = "[" + one + "]";
                String otherFlags = "[" + other + "]";
                if (one + other > 4) {
                    Checks.leavesAll(flags + " TIMES " + otherFlags, () -> Checks.holding(flags, otherFlags),
                        Checks.FULL, x -> x.makes(0, 1, Checks.TIMES, 1));
                } else {
                    DensitiesOfNets x = Checks.holding(flags, otherFlags);
                    Checks.must(flags + " TIMES " + otherFlags, x.makes(0, 1, Checks.TIMES, 2) > 0);
                    Checks.due("SIZE of " + flags + " TIMES " + otherFlags, x.sum(2, 2), one + other);
                }
                if (one > 0 && other > 0) {
                    String roots = "<" + one + ">";
                    String otherRoots = "<" + other + ">";
                    DensitiesOfNets x = Checks.holding(roots, otherRoots);
                    int answer = x.makes(0, 1, Checks.TIMES, 2);
                    Checks.must(roots + " TIMES " + otherRoots, answer == Checks.FULL == one + other - 1 > 4);
                    Checks.due("SIZE of " + roots + " TIMES " + otherRoots, x.sum(2, 2),
                            one + other - 1 > 4 ? Checks.STATE : one + other - 1);
                }
            }
        }
        DensitiesOfNets x = Checks.holding("[4]+[1]", "[4]-[1]", "[4]+[2]");
        Checks.due("PLUS", x.makes(0, 1, Checks.PLUS, 3), 1);
        Checks.due("LESS", x.makes(0, 1, Checks.LESS, 3), 1);
        Checks.due("any SIZE", x.makes(3, 0, Checks.TIMES, 3), Checks.FULL);
        Checks.due("[4] goes", x.makes(2, 0, Checks.LESS, 3), 2);
        Checks.due("it is no more there", x.makes(3, 3, Checks.TIMES, 3) > 0 ? 1 : 0, 1);
    }

    private static void makesTwoAtOnce() {
        Checks.about("makes: NONE; STATE; BAD; FULL; OVER: the first that the words name");
        String large = Checks.GREATEST + "*";
        DensitiesOfNets x = Checks.holding("[4]", "<4>");
        Checks.due("NONE ahead of STATE", x.makes(4, 2, 0, 0), Checks.NONE);
        Checks.due("NONE ahead of STATE", x.makes(2, -1, 0, 0), Checks.NONE);
        Checks.due("NONE ahead of STATE", x.makes(2, 2, 3, 0), Checks.NONE);
        Checks.due("NONE ahead of STATE", x.makes(2, 2, -1, 0), Checks.NONE);
        Checks.due("NONE ahead of STATE", x.makes(2, 3, 0, 4), Checks.NONE);
        Checks.due("NONE ahead of BAD", x.makes(0, 1, 3, 0), Checks.NONE);
        Checks.due("NONE ahead of BAD", x.makes(0, 1, 0, -1), Checks.NONE);
        Checks.due("NONE ahead of FULL", x.makes(0, 0, 2, 4), Checks.NONE);
        Checks.due("STATE ahead of what would be FULL", x.makes(0, 3, 2, 0), Checks.STATE);
        Checks.due("BAD ahead of FULL", x.makes(0, 1, 2, 2), Checks.BAD);
        Checks.holdsNothing(x, 2);
        DensitiesOfNets y = Checks.holding(large + "[3]", large + "<3>", large + "[1]");
        Checks.due("NONE ahead of OVER", y.makes(2, 2, 0, 4), Checks.NONE);
        Checks.due("BAD ahead of OVER", y.makes(0, 1, 0, 3), Checks.BAD);
        Checks.due("BAD ahead of OVER", y.makes(1, 2, 2, 3), Checks.BAD);
        Checks.due("FULL ahead of OVER", y.makes(0, 0, 2, 3), Checks.FULL);
        Checks.due("FULL ahead of OVER", y.makes(1, 1, 2, 3), Checks.FULL);
        Checks.due("OVER", y.makes(2, 2, 2, 3), Checks.OVER);
        Checks.due("OVER", y.makes(1, 1, 0, 3), Checks.OVER);
        Checks.holdsNothing(y, 3);
    }

    private static void makesIntoOneOfBoth() {
        Checks.about("makes: a STORE holds what two STORES make, also one of the two");
        for (int to = 0; to < 3; to++) {
            DensitiesOfNets x = Checks.holding("1+[1]", "2-[1]");
            Checks.due("PLUS", x.makes(0, 1, Checks.PLUS, to), 1);
            Checks.holds(x, to, 0, 3, 1);
            x = Checks.holding("1+[1]", "2-[1]");
            Checks.due("LESS", x.makes(0, 1, Checks.LESS, to), 2);
            Checks.holds(x, to, 0, -1, 1, 1, 2, 1);
            x = Checks.holding("1+[1]", "2-[1]");
            Checks.due("TIMES", x.makes(0, 1, Checks.TIMES, to), 4);
            Checks.holds(x, to, 0, 2, 1, 1, 1, 1, 2, -1, 1, 3, -1, 1);
            x = Checks.holding("1+[1]");
            Checks.due("with itself", x.makes(0, 0, Checks.TIMES, to), 4);
            Checks.holds(x, to, 0, 1, 1, 1, 2, 1, 2, 1, 1, 3, 1, 1);
            x = Checks.holding("1+[1]");
            Checks.due("LESS itself", x.makes(0, 0, Checks.LESS, to), 0);
            Checks.holds(x, to);
        }
    }

    private static void makesWithoutTerms() {
        Checks.about("a SUM without TERMS is of neither kind; what is ROOTED stays so");
        DensitiesOfNets x = Checks.holding("<201>", "0", "[1]-[1]");
        Checks.due("PLUS", x.makes(1, 0, Checks.PLUS, 3), 1);
        Checks.due("ROOTED", x.sum(3, 1), 1);
        Checks.due("LESS", x.makes(1, 0, Checks.LESS, 3), 1);
        Checks.due("ROOTED", x.sum(3, 1), 1);
        Checks.holds(x, 3, 2, -1, 1);
        Checks.due("TIMES", x.makes(0, 2, Checks.TIMES, 3), 0);
        Checks.due("of neither", x.sum(3, 1), 0);
        Checks.due("to nothing", x.makes(0, 0, Checks.LESS, 3), 0);
        Checks.due("then with FLAGS", Checks.read(x, 2, "[1]"), 1);
        Checks.due("then with FLAGS", x.makes(3, 2, Checks.PLUS, 3), 1);
        Checks.due("of FLAGS", x.sum(3, 1), 0);
        Checks.due("of FLAGS", x.makes(3, 0, Checks.PLUS, 3), Checks.BAD);
    }

    private static void makesToNothing() {
        Checks.about("what comes to 0 is no TERM");
        DensitiesOfNets x = Checks.holding("1-[1]", "1+[1]", "<2>-<1>", "<2>+<1>");
        Checks.due("TIMES", x.makes(0, 1, Checks.TIMES, 0), 3);
        Checks.holds(x, 0, 0, 1, 1, 2, -1, 1, 3, -1, 1);
        Checks.due("TIMES at the root", x.makes(2, 3, Checks.TIMES, 2), 3);
        Checks.holds(x, 2, 0, -1, 1, 3, 1, 1, 6, 1, 1);
        Checks.due("PLUS", x.makes(1, 0, Checks.LESS, 1), 3);
        Checks.holds(x, 1, 1, 1, 1, 2, 1, 1, 3, 1, 1);
    }

    // ---- lift, average

    private static void liftNumbers() {
        Checks.about("lift: NONE: store, size");
        for (int size = 0; size <= 4; size++) {
            int asked = size;
            DensitiesOfNets x = Checks.holding("1", "2", "3", "0");
            Checks.range("lift(.., " + size + ")", 0, 3, Checks.NONE, store -> x.lift(store, asked));
        }
        DensitiesOfNets x = Checks.holding("1", "<1>");
        Checks.range("lift(0, ..)", 0, 4, Checks.NONE, size -> x.lift(0, size));
        Checks.range("lift(1, ..)", 0, 4, Checks.NONE, size -> x.lift(1, size));
    }

    private static void liftSizes() {
        Checks.about("lift to a SIZE (0 .. 4): how many TERMS");
        int[] flags = {1, 1, 2, 4, 11};
        int[] roots = {Checks.BAD, 1, 2, 6, 20};
        for (int size = 0; size <= 4; size++) {
            DensitiesOfNets x = Checks.holding("1/2", "<1>", "[1]-[1]", "<1>-<1>");
            Checks.due("FLAG 0 to " + size, x.lift(0, size), flags[size]);
            Checks.due("ROOTED 0 to " + size, x.lift(1, size), roots[size]);
            Checks.due("without TERMS to " + size, x.lift(2, size), 0);
            Checks.due("without TERMS to " + size, x.lift(3, size), 0);
            Checks.due("SIZE", x.sum(0, 2), size);
            Checks.due("ROOTED", x.sum(1, 1), 1);
            int last = flags[size] - 1;
            Checks.fraction("the last", x.coefficient(0, last, 0), x.coefficient(0, last, 1), 1, 2);
            Checks.due("again", x.lift(0, size), flags[size]);
        }
        DensitiesOfNets x = Checks.holding("[3]", "<3>", "[4]-[3]", "<4>-<3>");
        Checks.due("to its own SIZE", x.lift(0, 3), 1);
        Checks.holds(x, 0, 4, 1, 1);
        Checks.due("to its own SIZE", x.lift(1, 3), 1);
        Checks.holds(x, 1, 3, 1, 1);
        // [3] has 1 in [4], 1 by 2 beside one LINE, 1 by 4 beside two or three at one POINT
        Checks.due("one SIZE up", x.lift(2, 4), 3);
        Checks.holds(x, 2, 9, -1, 2, 10, -1, 4, 12, -1, 4);
        Checks.due("one SIZE up, ROOTED", x.lift(3, 4), 5);
        Checks.holds(x, 3, 10, -1, 3, 12, -2, 3, 13, -1, 3, 19, -1, 3, 20, -1, 3);
        Checks.due("ROOTED", x.sum(3, 1), 1);
    }

    private static void liftBad() {
        Checks.about("lift: BAD: a TERM has a greater SIZE, ROOTED ones can't be of SIZE 0 (with TERMS)");
        for (int had = 0; had <= 4; had++) {
            for (int size = 0; size <= 4; size++) {
                String flags = "1+[" + had + "]";
                int asked = size;
                if (size < had) {
                    Checks.leavesAll(flags + " to " + size, () -> Checks.holding(flags), Checks.BAD,
                        x -> x.lift(0, asked));
                } else {
                    Checks.must(flags + " to " + size, Checks.holding(flags).lift(0, size) > 0);
                }
                String roots = "1+<" + had + ">";
                if (had > 0 && size < had) {
                    Checks.leavesAll(roots + " to " + size, () -> Checks.holding(roots), Checks.BAD,
                        x -> x.lift(0, asked));
                } else if (had > 0) {
                    Checks.must(roots + " to " + size, Checks.holding(roots).lift(0, size) > 0);
                }
            }
        }
        DensitiesOfNets x = Checks.holding("[4]-[4]+[1]", "<4>-<4>", "<1>");
        Checks.due("the greater is no more there", x.lift(0, 1), 1);
        Checks.due("without TERMS", x.lift(1, 0), 0);
        Checks.due("ROOTED 0", x.lift(2, 0), Checks.BAD);
        Checks.due("ROOTED 0", x.lift(2, 1), 1);
    }

    private static void liftTwoAtOnce() {
        Checks.about("lift: NONE: store, size; STATE; BAD; OVER");
        DensitiesOfNets x = Checks.holding("[3]", "<3>", Checks.GREATEST + "*[201]+[4]");
        Checks.due("STATE", x.lift(3, 0), Checks.STATE);
        Checks.due("STATE", x.lift(3, 4), Checks.STATE);
        Checks.due("NONE ahead of STATE", x.lift(3, 5), Checks.NONE);
        Checks.due("NONE ahead of STATE", x.lift(3, -1), Checks.NONE);
        Checks.due("NONE ahead of BAD", x.lift(0, -1), Checks.NONE);
        Checks.due("NONE ahead of BAD", x.lift(1, -1), Checks.NONE);
        Checks.due("NONE", x.lift(4, 2), Checks.NONE);
        Checks.due("NONE", x.lift(4, 5), Checks.NONE);
        Checks.due("BAD ahead of OVER", x.lift(2, 3), Checks.BAD);
        Checks.due("OVER", x.lift(2, 4), Checks.OVER);
        Checks.due("a TERM has a greater SIZE", x.lift(2, 1), Checks.BAD);
    }

    private static void averageNumbers() {
        Checks.about("average: NONE; STATE: it holds nothing; BAD: it has TERMS of FLAGS");
        DensitiesOfNets x = Checks.holding("<1>", "<2>", "<3>", "<4>");
        Checks.range("average(..)", 0, 3, Checks.NONE, x::average);
        Checks.due("of FLAGS now", x.average(0), Checks.BAD);
        Checks.due("of FLAGS now", x.average(3), Checks.BAD);
        DensitiesOfNets y = Checks.fresh();
        for (int store = 0; store < 4; store++) {
            Checks.due("it holds nothing", y.average(store), Checks.STATE);
        }
        Checks.due("average(4)", y.average(4), Checks.NONE);
        String[] flags = {"1", "[0]", "[1]", "[4]", "1+[201]"};
        for (String text : flags) {
            Checks.leavesAll("average of " + text, () -> Checks.holding(text), Checks.BAD, z -> z.average(0));
        }
        String[] none = {"0", "[1]-[1]", "<1>-<1>"};
        for (String text : none) {
            Checks.leavesAll("average of " + text, () -> Checks.holding(text), 0, z -> z.average(0));
        }
    }

    private static void averageOfNegativeOnes() {
        Checks.about("AVERAGED: each TERM, also less than 0");
        DensitiesOfNets x = Checks.holding("0-<301>", "<1>-1/2*<301>", "<301>-<312>", "0-<1>");
        Checks.due("-1", x.average(0), 1);
        Checks.holds(x, 0, 5, -2, 3);
        Checks.due("-1 by 2", x.average(1), 2);
        Checks.holds(x, 1, 1, 1, 1, 5, -1, 3);
        Checks.due("1 less 1", x.average(2), 1);
        Checks.holds(x, 2, 5, 1, 3);
        Checks.due("-1", x.average(3), 1);
        Checks.holds(x, 3, 1, -1, 1);
    }

    private static void averageWithoutTerms() {
        Checks.about("average of a SUM without TERMS: it stays, whatever was worked out before");
        DensitiesOfNets x = Checks.holding("1+[1]", "<1>-<1>", "<301>");
        x.makes(0, 0, Checks.TIMES, 3);
        Checks.due("behind makes", x.average(1), 0);
        Checks.holds(x, 1);
        x.lift(0, 2);
        Checks.due("behind lift", x.average(1), 0);
        x.average(2);
        Checks.due("behind another one", x.average(1), 0);
        Checks.holds(x, 1);
        Checks.holds(x, 2, 5, 2, 3);
        Checks.due("of neither kind", x.makes(1, 2, Checks.PLUS, 1), 1);
    }

    private static void averageEach() {
        Checks.about("AVERAGED: the FLAG that it is without a root, by how many POINTS make it so");
        DensitiesOfNets tells = Checks.fresh();
        for (int rooted = 0; rooted < 29; rooted++) {
            int size = tells.rooted(rooted, 0);
            int code = tells.rooted(rooted, 1);
            StringBuilder text = new StringBuilder("<").append(size);
            for (int j = 1; j < size; j++) {
                for (int i = 0; i < j; i++) {
                    if ((code >> j * (j - 1) / 2 + i & 1) != 0 && text.length() < 10) {
                        text.append(i).append(j);
                    }
                }
            }
            // five or six LINES are too many figures for a text
            if (Integer.bitCount(code) > 4) {
                continue;
            }
            DensitiesOfNets x = Checks.holding(text.append('>').toString());
            Checks.due("term of " + text, x.term(0, 0), rooted);
            Checks.due("average of " + text, x.average(0), 1);
            Checks.due("FLAG of " + text, x.term(0, 0), tells.rooted(rooted, 3));
            Checks.due("ways of " + text, x.coefficient(0, 0, 0) * size,
                    tells.rooted(rooted, 4) * x.coefficient(0, 0, 1));
            Checks.due("kind of " + text, x.sum(0, 1), 0);
        }
        DensitiesOfNets x = Checks.holding(ALL_ROOTED, "<1>");
        Checks.due("all of them", x.average(0), 18);
        Checks.due("but FLAG 0", x.term(0, 0), 1);
        Checks.due("ROOTED 0 is FLAG 1", x.average(1), 1);
        Checks.holds(x, 1, 1, 1, 1);
    }

    // ---- bound

    private static void boundNumbers() {
        Checks.about("bound: NO: store, size, which, part; it holds nothing; ROOTED TERMS");
        DensitiesOfNets x = Checks.holding("1", "2", "3", "0");
        Checks.range("bound(.., 0, 0, 0)", 0, 3, Checks.NO, store -> x.bound(store, 0, 0, 0));
        Checks.range("bound(0, .., 0, 0)", 0, 4, Checks.NO, size -> x.bound(0, size, 0, 0));
        Checks.range("bound(0, 4, .., 1)", 0, 1, Checks.NO, which -> x.bound(0, 4, which, 1));
        Checks.range("bound(0, 4, 1, ..)", 0, 1, Checks.NO, part -> x.bound(0, 4, 1, part));
        DensitiesOfNets y = Checks.holding("<1>", "<4>", "<1>-<1>");
        for (int size = 0; size <= 4; size++) {
            Checks.due("ROOTED", y.bound(0, size, 0, 0), Checks.NO);
            Checks.due("ROOTED", y.bound(1, size, 1, 1), Checks.NO);
            Checks.fraction("without TERMS", y.bound(2, size, 0, 0), y.bound(2, size, 1, 1), 0, 1);
            Checks.due("it holds nothing", y.bound(3, size, 0, 0), Checks.NO);
        }
    }

    private static void boundSizes() {
        Checks.about("bound: NO: a TERM has a greater SIZE");
        for (int had = 0; had <= 4; had++) {
            DensitiesOfNets x = Checks.holding("5/7*[" + had + "]");
            for (int size = 0; size <= 4; size++) {
                boolean isGreater = size < had;
                Checks.due("greatest of " + had + " in " + size, x.bound(0, size, 1, 0), isGreater ? Checks.NO : 5);
                Checks.due("below it", x.bound(0, size, 1, 1), isGreater ? Checks.NO : 7);
                Checks.due("least of " + had + " in " + size, x.bound(0, size, 0, 0),
                        isGreater ? Checks.NO : had < 2 ? 5 : 0);
                Checks.due("below it", x.bound(0, size, 0, 1), isGreater ? Checks.NO : had < 2 ? 7 : 1);
            }
            Checks.due("it stays", x.term(0, 0), new int[] {0, 1, 2, 4, 8}[had]);
        }
    }

    private static void boundOfThoseThatAreNoTerms() {
        Checks.about("0 by 1 for those that are no TERMS");
        DensitiesOfNets x = Checks.holding("0-[2]", "[2]-[201]", "[2]+2*[201]", "0-2*[2]-1/2*[201]");
        Checks.fraction("greatest", x.bound(0, 2, 1, 0), x.bound(0, 2, 1, 1), 0, 1);
        Checks.fraction("least", x.bound(0, 2, 0, 0), x.bound(0, 2, 0, 1), -1, 1);
        Checks.fraction("greatest", x.bound(1, 2, 1, 0), x.bound(1, 2, 1, 1), 1, 1);
        Checks.fraction("least", x.bound(1, 2, 0, 0), x.bound(1, 2, 0, 1), -1, 1);
        Checks.fraction("greatest", x.bound(2, 2, 1, 0), x.bound(2, 2, 1, 1), 2, 1);
        Checks.fraction("least", x.bound(2, 2, 0, 0), x.bound(2, 2, 0, 1), 1, 1);
        Checks.fraction("greatest", x.bound(3, 2, 1, 0), x.bound(3, 2, 1, 1), -1, 2);
        Checks.fraction("least", x.bound(3, 2, 0, 0), x.bound(3, 2, 0, 1), -2, 1);
        Checks.about("of all FLAGS of a SIZE, the first and the last, too");
        DensitiesOfNets y = Checks.holding("7*[3]-7*[301]", "0-[30112]", "[4]-3*[403]");
        y.points(3);
        Checks.fraction("the first", y.bound(0, 3, 1, 0), y.bound(0, 3, 1, 1), 7, 1);
        Checks.fraction("the second", y.bound(0, 3, 0, 0), y.bound(0, 3, 0, 1), -7, 1);
        Checks.fraction("the third", y.bound(1, 3, 0, 0), y.bound(1, 3, 0, 1), -1, 1);
        Checks.fraction("none of them", y.bound(1, 3, 1, 0), y.bound(1, 3, 1, 1), 0, 1);
        Checks.fraction("the first of SIZE 4", y.bound(2, 4, 1, 0), y.bound(2, 4, 1, 1), 1, 1);
        Checks.fraction("the second of SIZE 4", y.bound(2, 4, 0, 0), y.bound(2, 4, 0, 1), -3, 1);
        // the last FLAG of SIZE 4 has six LINES: all of it is [201] and [3010212], both lifted
        DensitiesOfNets z = Checks.holding("[201]*[201]", "0-[201]*[201]", "[3010212]-[201]");
        Checks.fraction("the last", z.bound(0, 4, 1, 0), z.bound(0, 4, 1, 1), 1, 1);
        Checks.fraction("the last", z.bound(1, 4, 0, 0), z.bound(1, 4, 0, 1), -1, 1);
        Checks.fraction("all LINES and none", z.bound(2, 4, 1, 0), z.bound(2, 4, 1, 1), 0, 1);
        Checks.fraction("a ring of four", z.bound(2, 4, 0, 0), z.bound(2, 4, 0, 1), -2, 3);
    }

    // ---- value, valueAt

    private static void valueNumbers() {
        Checks.about("value: NO: store, part; it holds nothing; ROOTED TERMS");
        DensitiesOfNets x = Checks.holding("1", "2", "3", "0");
        Checks.range("value(.., 0)", 0, 3, Checks.NO, store -> x.value(store, 0));
        Checks.range("value(.., 1)", 0, 3, Checks.NO, store -> x.value(store, 1));
        Checks.range("value(0, ..)", 0, 1, Checks.NO, part -> x.value(0, part));
        DensitiesOfNets y = Checks.holding("<1>", "<1>-<1>", "5+<1>-<1>");
        y.points(8);
        Checks.due("ROOTED", y.value(0, 0), Checks.NO);
        Checks.fraction("without TERMS", y.value(1, 0), y.value(1, 1), 0, 1);
        Checks.due("ROOTED", y.value(2, 1), Checks.NO);
        Checks.due("it holds nothing", y.value(3, 0), Checks.NO);
    }

    private static void valuePoints() {
        Checks.about("value: NO: one has more POINTS than there are");
        for (int size = 0; size <= 4; size++) {
            DensitiesOfNets x = Checks.holding("2/3*[" + size + "]", "0");
            for (int n = 0; n <= 8; n++) {
                x.points(n);
                Checks.due("[" + size + "] in " + n + " POINTS", x.value(0, 0), n < size ? Checks.NO : 2);
                Checks.due("below", x.value(0, 1), n < size ? Checks.NO : 3);
                Checks.due("without TERMS", x.value(1, 1), 1);
            }
        }
        DensitiesOfNets x = Checks.holding("[1]+[4]", "[4]-[4]+[1]", "[403]+1");
        Checks.draw(x, 3);
        Checks.due("any one", x.value(0, 0), Checks.NO);
        Checks.fraction("it is no more there", x.value(1, 0), x.value(1, 1), 1, 1);
        Checks.due("also with a SHARE of 0", x.value(2, 0), Checks.NO);
        Checks.draw(x, 4);
        Checks.fraction("SHARES of 1", x.value(0, 0), x.value(0, 1), 2, 1);
        Checks.fraction("a SHARE of 0", x.value(2, 0), x.value(2, 1), 1, 1);
    }

    private static void valueAtNumbers() {
        Checks.about("valueAt: NO: store, point, part; it holds nothing; TERMS of FLAGS");
        DensitiesOfNets x = Checks.holding("<1>", "2*<1>", "0", "<1>-<1>");
        x.points(8);
        Checks.range("valueAt(.., 0, 0)", 0, 3, Checks.NO, store -> x.valueAt(store, 0, 0));
        Checks.range("valueAt(0, .., 0)", 0, 7, Checks.NO, point -> x.valueAt(0, point, 0));
        Checks.range("valueAt(2, .., 1)", 0, 7, Checks.NO, point -> x.valueAt(2, point, 1));
        Checks.range("valueAt(1, 7, ..)", 0, 1, Checks.NO, part -> x.valueAt(1, 7, part));
        Checks.fraction("without TERMS 0", x.valueAt(2, 7, 0), x.valueAt(2, 7, 1), 0, 1);
        DensitiesOfNets y = Checks.holding("1", "[1]", "2+[1]-[1]");
        y.points(8);
        for (int store = 0; store < 4; store++) {
            Checks.due("FLAGS, or nothing, in " + store, y.valueAt(store, 0, 0), Checks.NO);
            Checks.due("FLAGS, or nothing, in " + store, y.valueAt(store, 0, 1), Checks.NO);
        }
    }

    private static void valueAtPoints() {
        Checks.about("valueAt: NO: one has more POINTS than there are");
        for (int size = 1; size <= 4; size++) {
            DensitiesOfNets x = Checks.holding("2/3*<" + size + ">", "0");
            Checks.due("no POINTS", x.valueAt(0, 0, 0), Checks.NO);
            Checks.due("no POINTS, without TERMS", x.valueAt(1, 0, 0), Checks.NO);
            for (int n = 1; n <= 8; n++) {
                x.points(n);
                Checks.due("<" + size + "> in " + n + " POINTS", x.valueAt(0, n - 1, 0), n < size ? Checks.NO : 2);
                Checks.due("below", x.valueAt(0, n - 1, 1), n < size ? Checks.NO : 3);
                Checks.due("at a POINT that is not there", x.valueAt(0, n, 0), Checks.NO);
                Checks.due("without TERMS", x.valueAt(1, n - 1, 1), 1);
                Checks.due("without TERMS at a POINT that is not there", x.valueAt(1, n, 1), Checks.NO);
            }
        }
    }

    // ---- move, film

    private static void moveNumbers() {
        Checks.about("move: NONE");
        DensitiesOfNets x = full();
        Checks.range("move(.., 2)", 0, 3, Checks.NONE, from -> x.move(from, 2));
        DensitiesOfNets y = full();
        Checks.range("move(1, ..)", 0, 3, Checks.NONE, to -> y.move(1, to));
        DensitiesOfNets z = Checks.fresh();
        Checks.range("move(.., 0) of nothing", 0, 3, Checks.NONE, from -> z.move(from, 0));
        Checks.range("move(0, ..) of nothing", 0, 3, Checks.NONE, to -> z.move(0, to));
        Checks.due("move(4, 4)", z.move(4, 4), Checks.NONE);
    }

    private static void moveNothing() {
        Checks.about("move: what another one holds (nothing, too): how many TERMS");
        DensitiesOfNets x = Checks.holding("1+[1]", "0", "<4>");
        Checks.due("nothing", x.move(3, 0), 0);
        Checks.holdsNothing(x, 0);
        Checks.due("without TERMS", x.move(1, 0), 0);
        Checks.holds(x, 0);
        Checks.due("a SUM", x.move(2, 3), 1);
        Checks.holds(x, 3, 9, 1, 1);
        Checks.due("ROOTED", x.sum(3, 1), 1);
        Checks.due("to itself", x.move(3, 3), 1);
        Checks.holds(x, 3, 9, 1, 1);
        x.clear(3);
        Checks.due("nothing to itself", x.move(3, 3), 0);
        Checks.holdsNothing(x, 3);
        Checks.due("nothing to nothing", x.count(1), 3);
        DensitiesOfNets y = Checks.holding(ALL_FLAGS, ALL_ROOTED);
        Checks.due("all FLAGS", y.move(0, 2), 19);
        Checks.due("all ROOTED ones", y.move(1, 0), 29);
        Checks.due("what was there is gone", y.term(0, 28), 28);
        Checks.due("all FLAGS", y.move(2, 0), 19);
        Checks.due("what was there is gone", y.term(0, 19), Checks.NONE);
    }

    private static void moveIsACopy() {
        Checks.about("move: what comes later to the one doesn't come to the other");
        DensitiesOfNets x = Checks.holding("<301>");
        x.move(0, 1);
        x.average(0);
        Checks.holds(x, 1, 4, 1, 1);
        Checks.due("ROOTED", x.sum(1, 1), 1);
        x.clear(1);
        Checks.holds(x, 0, 5, 2, 3);
    }

    private static void filmNumbers() {
        Checks.about("film: NONE: store, size; STATE: there are fewer POINTS");
        for (int size = 0; size <= 4; size++) {
            int asked = size;
            DensitiesOfNets x = Checks.net(8);
            Checks.range("film(.., " + size + ")", 0, 3, Checks.NONE, store -> x.film(store, asked));
        }
        DensitiesOfNets x = Checks.net(8);
        Checks.range("film(0, ..)", 0, 4, Checks.NONE, size -> x.film(0, size));
        DensitiesOfNets y = Checks.fresh();
        Checks.due("NONE ahead of STATE", y.film(4, 4), Checks.NONE);
        Checks.due("NONE ahead of STATE", y.film(-1, 4), Checks.NONE);
        Checks.due("NONE", y.film(0, 5), Checks.NONE);
        Checks.due("NONE", y.film(0, -1), Checks.NONE);
        Checks.due("STATE", y.film(0, 4), Checks.STATE);
        Checks.due("count(1)", y.count(1), 0);
    }

    private static void filmPoints() {
        Checks.about("film: STATE: there are fewer POINTS");
        int[] firsts = {0, 1, 2, 4, 8};
        for (int size = 0; size <= 4; size++) {
            for (int n = 0; n <= 8; n++) {
                int points = n;
                int asked = size;
                if (n < size) {
                    Checks.leavesAll("film of " + size + " in " + n + " POINTS", () -> {
                        DensitiesOfNets x = Checks.holding("1+[1]");
                        x.points(points);
                        return x;
                    }, Checks.STATE, x -> x.film(0, asked));
                } else {
                    DensitiesOfNets x = Checks.holding("1+[1]");
                    x.points(n);
                    Checks.due("film of " + size + " in " + n + " POINTS", x.film(0, size), 1);
                    Checks.holds(x, 0, firsts[size], 1, 1);
                }
            }
        }
    }

    private static void filmShares() {
        Checks.about("film: each FLAG of a SIZE that is FOUND, with its SHARE");
        DensitiesOfNets x = Checks.net(8, 6, 7);
        Checks.due("film(0, 2)", x.film(0, 2), 2);
        Checks.holds(x, 0, 2, 27, 28, 3, 1, 28);
        Checks.due("film(0, 4)", x.film(0, 4), 2);
        Checks.holds(x, 0, 8, 11, 14, 9, 3, 14);
        Checks.due("of FLAGS", x.sum(0, 1), 0);
        Checks.fraction("its value", x.value(0, 0), x.value(0, 1), 65, 98);
        DensitiesOfNets full = Checks.fullNet(8);
        Checks.due("film(3, 4)", full.film(3, 4), 1);
        Checks.holds(full, 3, 18, 1, 1);
    }

    private static void filmIsOfFlags() {
        Checks.about("film: a SUM of FLAGS");
        for (int size = 0; size <= 4; size++) {
            DensitiesOfNets x = Checks.holding(null, "<1>");
            x.points(8);
            Checks.due("film(0, " + size + ")", x.film(0, size), 1);
            Checks.due("sum(0, 1)", x.sum(0, 1), 0);
            Checks.due("sum(0, 2)", x.sum(0, 2), size);
            Checks.due("average(0)", x.average(0), Checks.BAD);
            Checks.due("with a ROOTED one", x.makes(0, 1, Checks.PLUS, 2), Checks.BAD);
            Checks.due("valueAt(0, 0, 0)", x.valueAt(0, 0, 0), Checks.NO);
            Checks.due("value(0, 0)", x.value(0, 0), 1);
        }
    }
}
