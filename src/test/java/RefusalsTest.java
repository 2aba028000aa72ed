import java.util.function.ToLongFunction;

/**
 * What is answered by NONE, BAD, STATE, FULL, OVER, -5 or NO changes nothing (but THE TAPE, as told), and neither
 * does what is asked: of an object in use all is compared with that of another one to which nothing was said.
 */
public final class RefusalsTest {
    private static final int LEAST = Integer.MIN_VALUE;
    private static final int MOST = Integer.MAX_VALUE;
    /** What no number of anything is. */
    private static final int[] ODD = {-1, LEAST, MOST, 29, 64, 128};

    public static void main(String[] args) {
        flagsRefused();
        handRefused();
        handTwoAtOnce();
        tapeRefused();
        readFaults();
        storesRefused();
        makesRefused();
        sumsRefused();
        valuesRefused();
        oddNumbersEverywhere();
        askedOfFlags();
        askedOfHand();
        askedOfSums();
        backIsNoRefusal();
        Checks.end();
    }

    /** POINTS with LINES, STORES of each kind and one that holds nothing, bytes, and another IMAGE. */
    private static DensitiesOfNets busy() {
        DensitiesOfNets x = Checks.fresh();
        Checks.draw(x, 4, 0, 3, 1, 3);
        Checks.read(x, 3, "<4>-1/7*<1>");
        Checks.read(x, 0, "9");
        x.image();
        Checks.draw(x, 6, 0, 1, 1, 2, 2, 0, 4, 5, 0, 5);
        x.clear(3);
        Checks.read(x, 0, "5/3+2*[201]-[301]");
        Checks.read(x, 1, "1/2*<1>-<312>");
        Checks.read(x, 2, "[1]-[1]");
        Checks.feed(x, "12*[201]+7");
        return x;
    }

    private static void leaves(String call, long want, ToLongFunction<DensitiesOfNets> asked) {
        Checks.leavesAll(call, RefusalsTest::busy, want, asked);
    }

    // ---- refused

    private static void flagsRefused() {
        Checks.about("what is refused changes nothing: flags");
        leaves("flag(19, 0)", Checks.NONE, x -> x.flag(19, 0));
        leaves("flag(0, 5)", Checks.NONE, x -> x.flag(0, 5));
        leaves("rooted(29, 0)", Checks.NONE, x -> x.rooted(29, 0));
        leaves("rooted(0, 5)", Checks.NONE, x -> x.rooted(0, 5));
        leaves("alike(2, 0, 0)", Checks.NONE, x -> x.alike(2, 0, 0));
        leaves("alike(0, 5, 0)", Checks.NONE, x -> x.alike(0, 5, 0));
        leaves("alike(1, 0, 0)", Checks.NONE, x -> x.alike(1, 0, 0));
        leaves("alike(0, 3, 8)", Checks.BAD, x -> x.alike(0, 3, 8));
        leaves("inside(8, 7, 0)", Checks.NO, x -> x.inside(8, 7, 0));
        leaves("inside(0, 7, 2)", Checks.NO, x -> x.inside(0, 7, 2));
        leaves("joint(7, 2, 18, 0)", Checks.NO, x -> x.joint(7, 2, 18, 0));
        leaves("jointRooted(3, 3, 28, 0)", Checks.NO, x -> x.jointRooted(3, 3, 28, 0));
    }

    private static void handRefused() {
        Checks.about("what is refused changes nothing: the network in hand");
        leaves("points(9)", Checks.BAD, x -> x.points(9));
        leaves("points(-1)", Checks.BAD, x -> x.points(-1));
        leaves("line(0, 6, 1)", Checks.NONE, x -> x.line(0, 6, 1));
        leaves("line(6, 0, 1)", Checks.NONE, x -> x.line(6, 0, 1));
        leaves("line(-1, 0, 1)", Checks.NONE, x -> x.line(-1, 0, 1));
        leaves("line(0, -1, 0)", Checks.NONE, x -> x.line(0, -1, 0));
        leaves("line(0, 1, 2)", Checks.BAD, x -> x.line(0, 1, 2));
        leaves("line(0, 1, -1)", Checks.BAD, x -> x.line(0, 1, -1));
        leaves("line(0, 3, 2)", Checks.BAD, x -> x.line(0, 3, 2));
        leaves("line(3, 3, 1)", Checks.BAD, x -> x.line(3, 3, 1));
        leaves("told(4)", Checks.NONE, x -> x.told(4));
        leaves("beside(6)", Checks.NONE, x -> x.beside(6));
        leaves("share(19, 0)", Checks.NO, x -> x.share(19, 0));
        leaves("share(0, 2)", Checks.NO, x -> x.share(0, 2));
        leaves("shareAt(6, 0, 0)", Checks.NO, x -> x.shareAt(6, 0, 0));
        leaves("shareAt(0, 29, 0)", Checks.NO, x -> x.shareAt(0, 29, 0));
        leaves("maps(19)", Checks.NONE, x -> x.maps(19));
        leaves("rank(4, 11)", Checks.NONE, x -> x.rank(4, 11));
        leaves("rank(5, 0)", Checks.NONE, x -> x.rank(5, 0));
        leaves("found(4, -2)", Checks.NONE, x -> x.found(4, -2));
        leaves("found(4, 11)", Checks.LACKING, x -> x.found(4, 11));
        leaves("found(5, 0)", Checks.NONE, x -> x.found(5, 0));
    }

    private static void handTwoAtOnce() {
        Checks.about("of several the first that a call's words name: the network in hand");
        leaves("line(6, 6, 2)", Checks.NONE, x -> x.line(6, 6, 2));
        leaves("line(0, 6, -1)", Checks.NONE, x -> x.line(0, 6, -1));
        leaves("line(2, 2, 2)", Checks.BAD, x -> x.line(2, 2, 2));
        leaves("alike(2, 5, -1)", Checks.NONE, x -> x.alike(2, 5, -1));
        leaves("alike(1, 0, 1)", Checks.NONE, x -> x.alike(1, 0, 1));
        leaves("rank(5, 11)", Checks.NONE, x -> x.rank(5, 11));
        leaves("found(5, -2)", Checks.NONE, x -> x.found(5, -2));
        Checks.leavesAll("rank(4, 11) of three POINTS", () -> Checks.net(3, 0, 1), Checks.NONE, x -> x.rank(4, 11));
        Checks.leavesAll("rank(4, 0) of three POINTS", () -> Checks.net(3, 0, 1), Checks.STATE, x -> x.rank(4, 0));
        Checks.leavesAll("found(4, -2) of three POINTS", () -> Checks.net(3, 0, 1), Checks.NONE, x -> x.found(4, -2));
        Checks.leavesAll("found(4, 0) of three POINTS", () -> Checks.net(3, 0, 1), Checks.STATE, x -> x.found(4, 0));
        Checks.leavesAll("found(4, 99) of three POINTS", () -> Checks.net(3, 0, 1), Checks.STATE,
            x -> x.found(4, 99));
        Checks.leavesAll("share(8, 0) of three POINTS", () -> Checks.net(3, 0, 1), Checks.NO, x -> x.share(8, 0));
        Checks.leavesAll("shareAt(0, 9, 0) of three POINTS", () -> Checks.net(3, 0, 1), Checks.NO,
            x -> x.shareAt(0, 9, 0));
    }

    private static void tapeRefused() {
        Checks.about("what is refused changes nothing: THE TAPE");
        int[] odd = {-1, 128, 256, 256 + '1', LEAST, MOST};
        for (int sign : odd) {
            leaves("feed(" + sign + ")", Checks.BAD, x -> x.feed(sign));
        }
        int[] stores = {-1, 4, LEAST, MOST};
        for (int store : stores) {
            leaves("read(" + store + ")", Checks.NONE, x -> x.read(store));
        }
        Checks.leavesAll("feed('1') behind 60 bytes", RefusalsTest::filled, Checks.FULL, x -> x.feed('1'));
        Checks.leavesAll("feed(128) behind 60 bytes", RefusalsTest::filled, Checks.BAD, x -> x.feed(128));
        Checks.leavesAll("read(4) of 60 bytes", RefusalsTest::filled, Checks.NONE, x -> x.read(4));
    }

    private static DensitiesOfNets filled() {
        DensitiesOfNets x = Checks.holding("1+[1]");
        Checks.feed(x, "1+".repeat(28) + "2*10");
        return x;
    }

    private static void readFaults() {
        Checks.about("a FAULT changes nothing but THE TAPE, which is empty then");
        String[] faults = {"1+", "[5]", "[1]*<1>", "[3]*[2]", "1*" + Checks.GREATEST + "+1", "", "1/0", "{[1]}",
            "{" + Checks.HALF + "*<301>}"};
        int[] due = {-1002, -2000, -3003, -4003, -5041, -1000, -1002, -3000, -5000};
        for (int i = 0; i < faults.length; i++) {
            for (int store = 0; store < 4; store++) {
                DensitiesOfNets x = busy();
                x.read(3);
                x.clear(3);
                Checks.due("read of " + faults[i], Checks.read(x, store, faults[i]), due[i]);
                DensitiesOfNets other = busy();
                other.read(3);
                other.clear(3);
                Checks.isAs("read of " + faults[i], x, other);
            }
        }
    }

    private static void storesRefused() {
        Checks.about("what is refused changes nothing: STORES");
        int[] stores = {-1, 4, LEAST, MOST};
        for (int store : stores) {
            leaves("clear(" + store + ")", Checks.NONE, x -> x.clear(store));
            leaves("sum(" + store + ", 0)", Checks.NONE, x -> x.sum(store, 0));
            leaves("term(" + store + ", 0)", Checks.NONE, x -> x.term(store, 0));
            leaves("coefficient(" + store + ", 0, 0)", Checks.NO, x -> x.coefficient(store, 0, 0));
            leaves("makes(" + store + ", 0, 0, 0)", Checks.NONE, x -> x.makes(store, 0, 0, 0));
            leaves("makes(0, " + store + ", 0, 0)", Checks.NONE, x -> x.makes(0, store, 0, 0));
            leaves("makes(0, 0, 0, " + store + ")", Checks.NONE, x -> x.makes(0, 0, 0, store));
            leaves("lift(" + store + ", 4)", Checks.NONE, x -> x.lift(store, 4));
            leaves("average(" + store + ")", Checks.NONE, x -> x.average(store));
            leaves("bound(" + store + ", 4, 0, 0)", Checks.NO, x -> x.bound(store, 4, 0, 0));
            leaves("value(" + store + ", 0)", Checks.NO, x -> x.value(store, 0));
            leaves("valueAt(" + store + ", 0, 0)", Checks.NO, x -> x.valueAt(store, 0, 0));
            leaves("move(" + store + ", 0)", Checks.NONE, x -> x.move(store, 0));
            leaves("move(0, " + store + ")", Checks.NONE, x -> x.move(0, store));
            leaves("film(" + store + ", 3)", Checks.NONE, x -> x.film(store, 3));
        }
        leaves("sum(3, 0)", Checks.STATE, x -> x.sum(3, 0));
        leaves("sum(3, 3)", Checks.NONE, x -> x.sum(3, 3));
        leaves("sum(0, 3)", Checks.NONE, x -> x.sum(0, 3));
        leaves("sum(2, 2)", Checks.LACKING, x -> x.sum(2, 2));
        leaves("term(3, 0)", Checks.STATE, x -> x.term(3, 0));
        leaves("term(0, 3)", Checks.NONE, x -> x.term(0, 3));
        leaves("term(2, 0)", Checks.NONE, x -> x.term(2, 0));
        leaves("coefficient(3, 0, 0)", Checks.NO, x -> x.coefficient(3, 0, 0));
        leaves("coefficient(0, 3, 0)", Checks.NO, x -> x.coefficient(0, 3, 0));
        leaves("coefficient(0, 0, 2)", Checks.NO, x -> x.coefficient(0, 0, 2));
    }

    private static void makesRefused() {
        Checks.about("what is refused changes nothing: makes");
        leaves("makes(0, 0, 3, 0)", Checks.NONE, x -> x.makes(0, 0, 3, 0));
        leaves("makes(0, 0, -1, 0)", Checks.NONE, x -> x.makes(0, 0, -1, 0));
        leaves("makes(0, 3, 3, 0)", Checks.NONE, x -> x.makes(0, 3, 3, 0));
        leaves("makes(3, 0, 0, 4)", Checks.NONE, x -> x.makes(3, 0, 0, 4));
        for (int to = 0; to < 4; to++) {
            int store = to;
            leaves("makes(0, 3, 0, " + to + ")", Checks.STATE, x -> x.makes(0, 3, 0, store));
            leaves("makes(3, 1, 2, " + to + ")", Checks.STATE, x -> x.makes(3, 1, 2, store));
            leaves("makes(0, 1, 0, " + to + ")", Checks.BAD, x -> x.makes(0, 1, 0, store));
            leaves("makes(1, 0, 2, " + to + ")", Checks.BAD, x -> x.makes(1, 0, 2, store));
            leaves("makes(0, 0, 2, " + to + ")", Checks.FULL, x -> x.makes(0, 0, 2, store));
            leaves("makes(1, 1, 2, " + to + ")", Checks.FULL, x -> x.makes(1, 1, 2, store));
            Checks.leavesAll("PLUS, OVER, to " + to, RefusalsTest::large, Checks.OVER, x -> x.makes(0, 0, 0, store));
            Checks.leavesAll("LESS, OVER, to " + to, RefusalsTest::large, Checks.OVER, x -> x.makes(1, 0, 1, store));
            Checks.leavesAll("TIMES, OVER, to " + to, RefusalsTest::large, Checks.OVER, x -> x.makes(0, 1, 2, store));
        }
    }

    /** Of a SUM that is OVER the TERMS ahead are worked out when that is come to. */
    private static DensitiesOfNets large() {
        return Checks.holding("3+[1]+" + Checks.GREATEST + "*[2]", "2-[1]-9*[2]", "1/2*<301>");
    }

    private static void sumsRefused() {
        Checks.about("what is refused changes nothing: lift, average, film");
        leaves("lift(0, 5)", Checks.NONE, x -> x.lift(0, 5));
        leaves("lift(0, -1)", Checks.NONE, x -> x.lift(0, -1));
        leaves("lift(3, 5)", Checks.NONE, x -> x.lift(3, 5));
        leaves("lift(3, 4)", Checks.STATE, x -> x.lift(3, 4));
        leaves("lift(0, 2)", Checks.BAD, x -> x.lift(0, 2));
        leaves("lift(1, 2)", Checks.BAD, x -> x.lift(1, 2));
        leaves("lift(1, 0)", Checks.BAD, x -> x.lift(1, 0));
        Checks.leavesAll("lift, OVER", RefusalsTest::large, Checks.OVER, x -> x.lift(0, 3));
        leaves("average(3)", Checks.STATE, x -> x.average(3));
        leaves("average(0)", Checks.BAD, x -> x.average(0));
        Checks.leavesAll("average, OVER", () -> Checks.holding("<1>+" + Checks.GREATEST + "*<301>"), Checks.OVER,
            x -> x.average(0));
        leaves("film(0, 5)", Checks.NONE, x -> x.film(0, 5));
        leaves("film(0, -1)", Checks.NONE, x -> x.film(0, -1));
        for (int size = 1; size <= 4; size++) {
            int asked = size;
            Checks.leavesAll("film(0, " + size + ") of too few", () -> {
                DensitiesOfNets x = busy();
                x.points(asked - 1);
                return x;
            }, Checks.STATE, x -> x.film(0, asked));
            Checks.leavesAll("film(4, " + size + ") of too few", () -> {
                DensitiesOfNets x = busy();
                x.points(asked - 1);
                return x;
            }, Checks.NONE, x -> x.film(4, asked));
        }
    }

    private static void valuesRefused() {
        Checks.about("what is refused changes nothing: bound, value, valueAt");
        leaves("bound(0, 5, 0, 0)", Checks.NO, x -> x.bound(0, 5, 0, 0));
        leaves("bound(0, 2, 0, 0)", Checks.NO, x -> x.bound(0, 2, 0, 0));
        leaves("bound(0, 4, 2, 0)", Checks.NO, x -> x.bound(0, 4, 2, 0));
        leaves("bound(0, 4, 0, 2)", Checks.NO, x -> x.bound(0, 4, 0, 2));
        leaves("bound(1, 4, 0, 0)", Checks.NO, x -> x.bound(1, 4, 0, 0));
        leaves("bound(3, 4, 0, 0)", Checks.NO, x -> x.bound(3, 4, 0, 0));
        leaves("value(0, 2)", Checks.NO, x -> x.value(0, 2));
        leaves("value(1, 0)", Checks.NO, x -> x.value(1, 0));
        leaves("value(3, 0)", Checks.NO, x -> x.value(3, 0));
        leaves("valueAt(0, 0, 0)", Checks.NO, x -> x.valueAt(0, 0, 0));
        leaves("valueAt(1, 6, 0)", Checks.NO, x -> x.valueAt(1, 6, 0));
        leaves("valueAt(1, 0, 2)", Checks.NO, x -> x.valueAt(1, 0, 2));
        leaves("valueAt(3, 0, 0)", Checks.NO, x -> x.valueAt(3, 0, 0));
        Checks.leavesAll("bound, OVER", RefusalsTest::large, Checks.NO, x -> x.bound(0, 3, 0, 0));
        Checks.leavesAll("value of too few POINTS", RefusalsTest::large, Checks.NO, x -> x.value(0, 0));
        Checks.leavesAll("valueAt of too few POINTS", RefusalsTest::large, Checks.NO, x -> x.valueAt(2, 0, 0));
    }

    /** A number that is none of anything, at each place of each call. */
    private static void oddNumbersEverywhere() {
        Checks.about("what is refused changes nothing: far off numbers");
        for (int odd : ODD) {
            leaves("flag", Checks.NONE, x -> Math.max(x.flag(odd, 0), x.flag(0, odd)));
            leaves("rooted", Checks.NONE, x -> Math.max(x.rooted(odd, 0), x.rooted(0, odd)));
            leaves("alike", Checks.NONE, x -> Math.max(x.alike(odd, 1, 0), x.alike(0, odd, 0)));
            leaves("alike", Checks.BAD, x -> x.alike(1, 3, odd));
            leaves("inside", Checks.NO, x -> Math.max(Math.max(x.inside(odd, 4, 0), x.inside(0, odd, 0)),
                x.inside(0, 4, odd)));
            leaves("joint", Checks.NO, x -> Math.max(Math.max(x.joint(odd, 0, 4, 0), x.joint(0, odd, 4, 0)),
                Math.max(x.joint(0, 0, odd, 0), x.joint(0, 0, 4, odd))));
            leaves("jointRooted", Checks.NO, x -> Math.max(Math.max(x.jointRooted(odd, 0, 4, 0),
                x.jointRooted(0, odd, 4, 0)), Math.max(x.jointRooted(0, 0, odd, 0), x.jointRooted(0, 0, 4, odd))));
            leaves("points", Checks.BAD, x -> x.points(odd));
            leaves("line", Checks.NONE, x -> Math.max(x.line(odd, 0, 1), x.line(0, odd, 1)));
            leaves("line", Checks.BAD, x -> Math.max(x.line(0, 1, odd), x.line(0, 5, odd)));
            leaves("told", Checks.NONE, x -> x.told(odd));
            leaves("beside", Checks.NONE, x -> x.beside(odd));
            leaves("share", Checks.NO, x -> Math.max(x.share(odd, 0), x.share(3, odd)));
            leaves("shareAt", Checks.NO, x -> Math.max(Math.max(x.shareAt(odd, 0, 0), x.shareAt(0, odd, 0)),
                x.shareAt(0, 0, odd)));
            leaves("maps", Checks.NONE, x -> x.maps(odd));
            leaves("rank", Checks.NONE, x -> Math.max(x.rank(odd, 0), x.rank(2, odd)));
            leaves("found", Checks.NONE, x -> x.found(odd, 0));
            leaves("read", Checks.NONE, x -> x.read(odd));
            leaves("sum", Checks.NONE, x -> Math.max(x.sum(odd, 0), x.sum(0, odd)));
            leaves("term", Checks.NONE, x -> Math.max(x.term(odd, 0), x.term(0, odd)));
            leaves("coefficient", Checks.NO, x -> Math.max(Math.max(x.coefficient(odd, 0, 0),
                x.coefficient(0, odd, 0)), x.coefficient(0, 0, odd)));
            leaves("makes", Checks.NONE, x -> Math.max(Math.max(x.makes(odd, 0, 0, 0), x.makes(0, odd, 0, 0)),
                Math.max(x.makes(0, 0, odd, 0), x.makes(0, 0, 0, odd))));
            leaves("lift", Checks.NONE, x -> Math.max(x.lift(odd, 4), x.lift(0, odd)));
            leaves("average", Checks.NONE, x -> x.average(odd));
            leaves("bound", Checks.NO, x -> Math.max(Math.max(x.bound(odd, 4, 0, 0), x.bound(0, odd, 0, 0)),
                Math.max(x.bound(0, 4, odd, 0), x.bound(0, 4, 0, odd))));
            leaves("value", Checks.NO, x -> Math.max(x.value(odd, 0), x.value(0, odd)));
            leaves("valueAt", Checks.NO, x -> Math.max(Math.max(x.valueAt(odd, 0, 0), x.valueAt(1, odd, 0)),
                x.valueAt(1, 0, odd)));
            leaves("move", Checks.NONE, x -> Math.max(x.move(odd, 0), x.move(0, odd)));
            leaves("film", Checks.NONE, x -> Math.max(x.film(odd, 2), x.film(0, odd)));
            leaves("count", Checks.NONE, x -> x.count(odd));
        }
    }

    // ---- asked

    private static void askedOfFlags() {
        Checks.about("what is asked changes nothing: flags");
        leaves("flag", 24, x -> x.flag(18, 3));
        leaves("flag", 8, x -> x.flag(18, 4));
        leaves("rooted", 4, x -> x.rooted(28, 4));
        leaves("alike", 18, x -> x.alike(0, 4, 63));
        leaves("alike", 28, x -> x.alike(1, 4, 63));
        leaves("inside", 2, x -> x.inside(3, 6, 0));
        leaves("joint", 3, x -> x.joint(3, 3, 15, 1));
        leaves("jointRooted", 2, x -> x.jointRooted(1, 2, 4, 1));
    }

    private static void askedOfHand() {
        Checks.about("what is asked changes nothing: the network in hand");
        // 0, 1 and 2 have all LINES, 4 and 5 and 0 and 5 one
        leaves("told", 5, x -> x.told(1));
        leaves("beside", 38, x -> x.beside(0));
        leaves("share", 1, x -> x.share(3, 0));
        leaves("share", 3, x -> x.share(3, 1));
        leaves("share", 20, x -> x.share(7, 1));
        leaves("shareAt", 3, x -> x.shareAt(0, 2, 0));
        leaves("shareAt", 1, x -> x.shareAt(3, 0, 1));
        leaves("maps", 6, x -> x.maps(7));
        leaves("rank", 2, x -> x.rank(2, 0));
        leaves("found", 2, x -> x.found(2, -1));
        leaves("found", 7, x -> x.found(3, 0));
    }

    private static void askedOfSums() {
        Checks.about("what is asked changes nothing: sums");
        leaves("sum", 3, x -> x.sum(0, 0));
        leaves("sum", 1, x -> x.sum(1, 1));
        leaves("sum", 3, x -> x.sum(1, 2));
        leaves("term", 5, x -> x.term(0, 2));
        leaves("coefficient", -1, x -> x.coefficient(1, 1, 0));
        leaves("bound", 3, x -> x.bound(0, 3, 1, 1));
        leaves("bound", 4, x -> x.bound(0, 3, 0, 0));
        leaves("value", 1, x -> x.value(2, 1));
        leaves("value of all", valueOfBusy(), x -> x.value(0, 0));
        leaves("valueAt", 2, x -> x.valueAt(1, 3, 1) > 0 ? 2 : 0);
        leaves("valueAt", 1, x -> x.valueAt(2, 5, 1));
        leaves("count", 3, x -> x.count(1));
        leaves("count", 5, x -> x.count(2));
        leaves("count", 10, x -> x.count(0));
    }

    /** 5 by 3 and 2 by 3, less the SHARE of one LINE on three POINTS. */
    private static long valueOfBusy() {
        DensitiesOfNets x = busy();
        long above = x.share(5, 0);
        long below = x.share(5, 1);
        long common = 1;
        for (long i = 2; i <= 3 * below; i++) {
            if ((7 * below - 3 * above) % i == 0 && 3 * below % i == 0) {
                common = i;
            }
        }
        return (7 * below - 3 * above) / common;
    }

    private static void backIsNoRefusal() {
        Checks.about("the IMAGE of one in use is another than what it holds, so that a change can't hide");
        DensitiesOfNets x = busy();
        Checks.due("told(0)", x.told(0), 6);
        Checks.due("count(2)", x.count(2), 5);
        Checks.due("back()", x.back(), 4);
        Checks.due("count(2)", x.count(2), 3);
        Checks.holds(x, 0, 0, 9, 1);
        Checks.holds(x, 3, 0, -1, 7, 9, 1, 1);
        Checks.due("count(0)", x.count(0), 10);
        Checks.due("read(1)", x.read(1), 2);
        Checks.holds(x, 1, 0, 7, 1, 3, 12, 1);
    }
}
