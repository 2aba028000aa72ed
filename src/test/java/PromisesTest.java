/**
 * Promise by promise: ordinary inputs, the edges that the document names, wrong inputs.
 * The answers that are due were worked out by hand.
 */
public final class PromisesTest {
    private static final int NONE = -1;
    private static final int BAD = -2;
    private static final int STATE = -3;
    private static final int FULL = -4;
    private static final int LACKING = -5;
    private static final int OVER = -6;
    private static final long NO = Long.MIN_VALUE;

    private static int wrong = 0;
    private static int promise = 0;

    private static void due(String call, long got, long want) {
        if (got != want) {
            wrong++;
            System.out.println("promise " + promise + ": " + call + " answered " + got + ", due is " + want);
        }
    }

    private static void fraction(String call, long above, long below, long wantAbove, long wantBelow) {
        due(call + " above", above, wantAbove);
        due(call + " below", below, wantBelow);
    }

    private static DensitiesOfNets fresh() {
        return new DensitiesOfNets();
    }

    private static void feed(DensitiesOfNets x, String text) {
        for (int i = 0; i < text.length(); i++) {
            x.feed(text.charAt(i));
        }
    }

    private static int read(DensitiesOfNets x, int store, String text) {
        feed(x, text);
        return x.read(store);
    }

    /** A text alone, on a new object. */
    private static void reads(String text, int want) {
        due("read of " + text, read(fresh(), 0, text), want);
    }

    /** POINTS 0 - 1 - 2 - .. in a row. */
    private static DensitiesOfNets row(int n) {
        DensitiesOfNets x = fresh();
        x.points(n);
        for (int i = 1; i < n; i++) {
            x.line(i - 1, i, 1);
        }
        return x;
    }

    private static DensitiesOfNets full(int n) {
        DensitiesOfNets x = fresh();
        x.points(n);
        for (int j = 1; j < n; j++) {
            for (int i = 0; i < j; i++) {
                x.line(i, j, 1);
            }
        }
        return x;
    }

    /** A STORE holds just these: number, above, below of each TERM. */
    private static void holds(DensitiesOfNets x, int store, long... terms) {
        int many = terms.length / 3;
        due("sum(" + store + ", 0)", x.sum(store, 0), many);
        for (int i = 0; i < many; i++) {
            due("term(" + store + ", " + i + ")", x.term(store, i), terms[3 * i]);
            fraction("coefficient(" + store + ", " + i + ")", x.coefficient(store, i, 0), x.coefficient(store, i, 1),
                    terms[3 * i + 1], terms[3 * i + 2]);
        }
        due("term behind the last", x.term(store, many), NONE);
        due("coefficient behind the last", x.coefficient(store, many, 0), NO);
    }

    public static void main(String[] args) {
        aNewObject();
        flag();
        rooted();
        alike();
        inside();
        joint();
        jointRooted();
        points();
        line();
        told();
        beside();
        share();
        shareAt();
        maps();
        rank();
        found();
        feed();
        readTexts();
        readFaultsOfKindOne();
        readFaultsOfKindTwo();
        readFaultsOfWorkingOut();
        readOver();
        clear();
        sum();
        term();
        coefficient();
        makes();
        makesRefused();
        lift();
        average();
        bound();
        value();
        valueAt();
        move();
        film();
        image();
        back();
        count();
        System.out.println(wrong == 0 ? "all promises hold" : wrong + " answers are not as due");
        System.exit(wrong == 0 ? 0 : 1);
    }

    private static void aNewObject() {
        promise = 1;
        DensitiesOfNets x = fresh();
        due("told(0)", x.told(0), 0);
        due("beside(0)", x.beside(0), NONE);
        due("points(0)", x.points(0), 0);
        due("back()", x.back(), STATE);
        for (int what = 0; what < 3; what++) {
            due("count", x.count(what), 0);
        }
        for (int store = 0; store < 4; store++) {
            due("sum", x.sum(store, 0), STATE);
        }
    }

    private static void flag() {
        promise = 2;
        DensitiesOfNets x = fresh();
        int[] least = {0, 0, 0, 1, 0, 1, 3, 7, 0, 1, 3, 7, 11, 12, 13, 15, 30, 31, 63};
        int[] opposite = {0, 1, 3, 2, 7, 6, 5, 4, 18, 17, 15, 12, 11, 16, 14, 10, 13, 9, 8};
        int[] same = {1, 1, 2, 2, 6, 2, 2, 6, 24, 4, 2, 6, 6, 8, 2, 2, 8, 4, 24};
        for (int flag = 0; flag < 19; flag++) {
            due("size", x.flag(flag, 0), flag < 1 ? 0 : flag < 2 ? 1 : flag < 4 ? 2 : flag < 8 ? 3 : 4);
            due("code", x.flag(flag, 1), least[flag]);
            due("lines", x.flag(flag, 2), Integer.bitCount(least[flag]));
            due("same", x.flag(flag, 3), same[flag]);
            due("opposite", x.flag(flag, 4), opposite[flag]);
        }
        int[] odd = {-1, 19, Integer.MIN_VALUE, Integer.MAX_VALUE};
        for (int flag : odd) {
            due("flag", x.flag(flag, 0), NONE);
        }
        int[] oddWhat = {-1, 5, Integer.MIN_VALUE, Integer.MAX_VALUE};
        for (int what : oddWhat) {
            due("what", x.flag(3, what), NONE);
        }
    }

    private static void rooted() {
        promise = 3;
        DensitiesOfNets x = fresh();
        int[] least = {0, 0, 1, 0, 1, 3, 4, 5, 7};
        int[] at = {0, 0, 1, 0, 1, 2, 0, 1, 2};
        int[] bare = {1, 2, 3, 4, 5, 6, 5, 6, 7};
        int[] ways = {1, 2, 2, 3, 2, 1, 1, 2, 3};
        for (int rooted = 0; rooted < 9; rooted++) {
            due("size", x.rooted(rooted, 0), rooted < 1 ? 1 : rooted < 3 ? 2 : 3);
            due("code", x.rooted(rooted, 1), least[rooted]);
            due("lines at the root", x.rooted(rooted, 2), at[rooted]);
            due("without a root", x.rooted(rooted, 3), bare[rooted]);
            due("ways", x.rooted(rooted, 4), ways[rooted]);
        }
        // each POINT of each of the 11 FLAGS of SIZE 4 makes it one of the 20
        int all = 0;
        int before = -1;
        for (int rooted = 9; rooted < 29; rooted++) {
            due("size", x.rooted(rooted, 0), 4);
            all += x.rooted(rooted, 4);
            due("codes grow", x.rooted(rooted, 1) > before ? 1 : 0, 1);
            before = x.rooted(rooted, 1);
        }
        due("ways of all", all, 44);
        due("rooted(28, 1)", x.rooted(28, 1), 63);
        due("rooted(28, 2)", x.rooted(28, 2), 3);
        due("rooted(28, 3)", x.rooted(28, 3), 18);
        due("rooted(29, 0)", x.rooted(29, 0), NONE);
        due("rooted(-1, 0)", x.rooted(-1, 0), NONE);
        due("rooted(0, 5)", x.rooted(0, 5), NONE);
        due("rooted(0, -1)", x.rooted(0, -1), NONE);
    }

    private static void alike() {
        promise = 4;
        DensitiesOfNets x = fresh();
        due("alike(0, 0, 0)", x.alike(0, 0, 0), 0);
        due("alike(0, 1, 0)", x.alike(0, 1, 0), 1);
        due("alike(1, 1, 0)", x.alike(1, 1, 0), 0);
        due("alike(0, 3, 2)", x.alike(0, 3, 2), 5);
        due("alike(0, 3, 4)", x.alike(0, 3, 4), 5);
        due("alike(1, 3, 2)", x.alike(1, 3, 2), 4);
        due("alike(1, 3, 4)", x.alike(1, 3, 4), 6);
        due("alike(1, 3, 6)", x.alike(1, 3, 6), 7);
        due("alike(0, 4, 63)", x.alike(0, 4, 63), 18);
        due("alike(1, 4, 63)", x.alike(1, 4, 63), 28);
        due("alike(0, 4, 33)", x.alike(0, 4, 33), 13);
        due("alike(2, 3, 0)", x.alike(2, 3, 0), NONE);
        due("alike(-1, 3, 0)", x.alike(-1, 3, 0), NONE);
        due("alike(1, 0, 0)", x.alike(1, 0, 0), NONE);
        due("alike(0, 5, 0)", x.alike(0, 5, 0), NONE);
        due("alike(0, -1, 0)", x.alike(0, -1, 0), NONE);
        due("alike(0, 0, 1)", x.alike(0, 0, 1), BAD);
        due("alike(0, 1, 1)", x.alike(0, 1, 1), BAD);
        due("alike(0, 2, 2)", x.alike(0, 2, 2), BAD);
        due("alike(0, 4, 64)", x.alike(0, 4, 64), BAD);
        due("alike(1, 4, -1)", x.alike(1, 4, -1), BAD);
        due("size ahead of code", x.alike(0, 5, -1), NONE);
    }

    private static void inside() {
        promise = 5;
        DensitiesOfNets x = fresh();
        fraction("inside(3, 6)", x.inside(3, 6, 0), x.inside(3, 6, 1), 2, 3);
        fraction("inside(2, 6)", x.inside(2, 6, 0), x.inside(2, 6, 1), 1, 3);
        fraction("inside(3, 18)", x.inside(3, 18, 0), x.inside(3, 18, 1), 1, 1);
        fraction("inside(3, 8)", x.inside(3, 8, 0), x.inside(3, 8, 1), 0, 1);
        fraction("inside(0, 0)", x.inside(0, 0, 0), x.inside(0, 0, 1), 1, 1);
        fraction("inside(14, 14)", x.inside(14, 14, 0), x.inside(14, 14, 1), 1, 1);
        fraction("inside(13, 14)", x.inside(13, 14, 0), x.inside(13, 14, 1), 0, 1);
        due("fewer POINTS", x.inside(6, 3, 0), NO);
        due("inside(19, 18, 0)", x.inside(19, 18, 0), NO);
        due("inside(3, 19, 0)", x.inside(3, 19, 0), NO);
        due("inside(-1, 18, 0)", x.inside(-1, 18, 0), NO);
        due("inside(3, -1, 0)", x.inside(3, -1, 0), NO);
        due("inside(3, 18, 2)", x.inside(3, 18, 2), NO);
        due("inside(3, 18, -1)", x.inside(3, 18, -1), NO);
    }

    private static void joint() {
        promise = 6;
        DensitiesOfNets x = fresh();
        fraction("joint(3, 3, 16)", x.joint(3, 3, 16, 0), x.joint(3, 3, 16, 1), 2, 3);
        fraction("joint(3, 3, 15)", x.joint(3, 3, 15, 0), x.joint(3, 3, 15, 1), 1, 3);
        fraction("joint(2, 3, 15)", x.joint(2, 3, 15, 0), x.joint(2, 3, 15, 1), 1, 3);
        fraction("joint(3, 1, 6)", x.joint(3, 1, 6, 0), x.joint(3, 1, 6, 1), 2, 3);
        fraction("joint(0, 0, 0)", x.joint(0, 0, 0, 0), x.joint(0, 0, 0, 1), 1, 1);
        fraction("joint(6, 1, 12)", x.joint(6, 1, 12, 0), x.joint(6, 1, 12, 1), 3, 4);
        fraction("joint(1, 1, 18)", x.joint(1, 1, 18, 0), x.joint(1, 1, 18, 1), 1, 1);
        due("fewer POINTS", x.joint(3, 3, 7, 0), NO);
        due("joint(19, 0, 18, 0)", x.joint(19, 0, 18, 0), NO);
        due("joint(0, 19, 18, 0)", x.joint(0, 19, 18, 0), NO);
        due("joint(0, 0, 19, 0)", x.joint(0, 0, 19, 0), NO);
        due("joint(0, -1, 18, 0)", x.joint(0, -1, 18, 0), NO);
        due("joint(0, 0, 18, 2)", x.joint(0, 0, 18, 2), NO);
    }

    private static void jointRooted() {
        promise = 7;
        DensitiesOfNets x = fresh();
        fraction("(1, 2, 4)", x.jointRooted(1, 2, 4, 0), x.jointRooted(1, 2, 4, 1), 1, 2);
        fraction("(2, 2, 8)", x.jointRooted(2, 2, 8, 0), x.jointRooted(2, 2, 8, 1), 1, 1);
        fraction("(2, 2, 5)", x.jointRooted(2, 2, 5, 0), x.jointRooted(2, 2, 5, 1), 1, 1);
        fraction("(1, 2, 5)", x.jointRooted(1, 2, 5, 0), x.jointRooted(1, 2, 5, 1), 0, 1);
        fraction("(0, 2, 7)", x.jointRooted(0, 2, 7, 0), x.jointRooted(0, 2, 7, 1), 1, 2);
        fraction("(0, 0, 0)", x.jointRooted(0, 0, 0, 0), x.jointRooted(0, 0, 0, 1), 1, 1);
        fraction("(8, 2, 28)", x.jointRooted(8, 2, 28, 0), x.jointRooted(8, 2, 28, 1), 1, 1);
        due("just enough POINTS", x.jointRooted(3, 1, 28, 0), 0);
        due("fewer POINTS", x.jointRooted(3, 3, 28, 0), NO);
        due("(29, 0, 28, 0)", x.jointRooted(29, 0, 28, 0), NO);
        due("(0, 29, 28, 0)", x.jointRooted(0, 29, 28, 0), NO);
        due("(0, 0, 29, 0)", x.jointRooted(0, 0, 29, 0), NO);
        due("(-1, 0, 28, 0)", x.jointRooted(-1, 0, 28, 0), NO);
        due("(0, 0, 28, 2)", x.jointRooted(0, 0, 28, 2), NO);
    }

    private static void points() {
        promise = 8;
        DensitiesOfNets x = fresh();
        due("points(3)", x.points(3), 0);
        x.line(0, 1, 1);
        due("points(9)", x.points(9), BAD);
        due("points(-1)", x.points(-1), BAD);
        due("a refused one changes nothing", x.told(1), 1);
        due("points(3)", x.points(3), 3);
        due("the LINES are gone", x.told(1), 0);
        due("points(8)", x.points(8), 3);
        due("points(0)", x.points(0), 8);
        due("told(0)", x.told(0), 0);
    }

    private static void line() {
        promise = 9;
        DensitiesOfNets x = fresh();
        due("no POINTS", x.line(0, 1, 1), NONE);
        x.points(4);
        due("line(0, 3, 1)", x.line(0, 3, 1), 0);
        due("line(3, 0, 1)", x.line(3, 0, 1), 1);
        due("beside(0)", x.beside(0), 8);
        due("line(3, 0, 0)", x.line(3, 0, 0), 1);
        due("line(0, 3, 0)", x.line(0, 3, 0), 0);
        due("line(0, 4, 1)", x.line(0, 4, 1), NONE);
        due("line(-1, 0, 1)", x.line(-1, 0, 1), NONE);
        due("line(0, 1, 2)", x.line(0, 1, 2), BAD);
        due("line(0, 1, -1)", x.line(0, 1, -1), BAD);
        due("line(2, 2, 1)", x.line(2, 2, 1), BAD);
        due("NONE ahead of BAD", x.line(4, 4, 2), NONE);
        due("told(1)", x.told(1), 0);
    }

    private static void told() {
        promise = 10;
        DensitiesOfNets x = fresh();
        due("no POINTS", x.told(2), 0);
        x = row(5);
        due("told(0)", x.told(0), 5);
        due("told(1)", x.told(1), 4);
        due("told(2)", x.told(2), 2);
        due("told(3): 0 2 4", x.told(3), 1);
        due("told(4)", x.told(4), NONE);
        due("told(-1)", x.told(-1), NONE);
        due("all LINES", full(4).told(3), 4);
        x.points(8);
        due("no LINES", x.told(3), 56);
    }

    private static void beside() {
        promise = 11;
        DensitiesOfNets x = row(8);
        due("beside(0)", x.beside(0), 2);
        due("beside(6)", x.beside(6), 160);
        due("beside(7)", x.beside(7), 64);
        due("beside(8)", x.beside(8), NONE);
        due("beside(-1)", x.beside(-1), NONE);
    }

    private static void share() {
        promise = 12;
        DensitiesOfNets x = row(4);
        fraction("share(3)", x.share(3, 0), x.share(3, 1), 1, 2);
        fraction("share(6)", x.share(6, 0), x.share(6, 1), 1, 2);
        fraction("share(14)", x.share(14, 0), x.share(14, 1), 1, 1);
        fraction("share(7)", x.share(7, 0), x.share(7, 1), 0, 1);
        fraction("share(0)", x.share(0, 0), x.share(0, 1), 1, 1);
        due("share(19, 0)", x.share(19, 0), NO);
        due("share(-1, 0)", x.share(-1, 0), NO);
        due("share(3, 2)", x.share(3, 2), NO);
        x.points(3);
        due("fewer POINTS", x.share(8, 0), NO);
        due("just enough", x.share(4, 0), 1);
    }

    private static void shareAt() {
        promise = 13;
        DensitiesOfNets x = row(4);
        fraction("shareAt(0, 2)", x.shareAt(0, 2, 0), x.shareAt(0, 2, 1), 1, 3);
        fraction("shareAt(1, 2)", x.shareAt(1, 2, 0), x.shareAt(1, 2, 1), 2, 3);
        // of 1 with two others: 0 2 (both ends), 0 3 and 2 3 (2 3: a row from 1 on)
        fraction("shareAt(1, 5)", x.shareAt(1, 5, 0), x.shareAt(1, 5, 1), 1, 3);
        fraction("shareAt(1, 4)", x.shareAt(1, 4, 0), x.shareAt(1, 4, 1), 1, 3);
        fraction("shareAt(1, 7)", x.shareAt(1, 7, 0), x.shareAt(1, 7, 1), 1, 3);
        fraction("shareAt(0, 6)", x.shareAt(0, 6, 0), x.shareAt(0, 6, 1), 1, 3);
        fraction("shareAt(3, 0)", x.shareAt(3, 0, 0), x.shareAt(3, 0, 1), 1, 1);
        due("shareAt(4, 0, 0)", x.shareAt(4, 0, 0), NO);
        due("shareAt(-1, 0, 0)", x.shareAt(-1, 0, 0), NO);
        due("shareAt(0, 29, 0)", x.shareAt(0, 29, 0), NO);
        due("shareAt(0, 0, 2)", x.shareAt(0, 0, 2), NO);
        x.points(3);
        due("fewer POINTS", x.shareAt(0, 9, 0), NO);
    }

    private static void maps() {
        promise = 14;
        DensitiesOfNets x = full(3);
        due("maps(0)", x.maps(0), 1);
        due("maps(1)", x.maps(1), 3);
        due("maps(2)", x.maps(2), 9);
        due("maps(3)", x.maps(3), 6);
        due("maps(6)", x.maps(6), 12);
        due("maps(7)", x.maps(7), 6);
        due("maps(8)", x.maps(8), 81);
        due("maps(16)", x.maps(16), 18);
        due("maps(18)", x.maps(18), 0);
        due("maps(19)", x.maps(19), NONE);
        due("maps(-1)", x.maps(-1), NONE);
        x.points(8);
        due("maps(8)", x.maps(8), 4096);
        due("maps(9)", x.maps(9), 0);
        x.points(0);
        due("maps(0)", x.maps(0), 1);
        due("maps(1)", x.maps(1), 0);
    }

    private static void rank() {
        promise = 15;
        DensitiesOfNets x = row(4);
        due("like SHARES", x.rank(2, 0), 2);
        due("rank(2, 1)", x.rank(2, 1), 3);
        due("rank(3, 0)", x.rank(3, 0), 5);
        due("rank(3, 1)", x.rank(3, 1), 6);
        due("rank(3, 2)", x.rank(3, 2), 4);
        due("rank(3, 3)", x.rank(3, 3), 7);
        due("rank(4, 0)", x.rank(4, 0), 14);
        due("rank(4, 1)", x.rank(4, 1), 8);
        due("rank(4, 10)", x.rank(4, 10), 18);
        due("rank(4, 11)", x.rank(4, 11), NONE);
        due("rank(4, -1)", x.rank(4, -1), NONE);
        due("rank(5, 0)", x.rank(5, 0), NONE);
        due("rank(-1, 0)", x.rank(-1, 0), NONE);
        x.points(3);
        due("fewer POINTS", x.rank(4, 0), STATE);
        due("NONE ahead of STATE", x.rank(4, 11), NONE);
    }

    private static void found() {
        promise = 16;
        DensitiesOfNets x = row(4);
        due("found(2, -1)", x.found(2, -1), 2);
        due("found(2, 0)", x.found(2, 0), 3);
        due("found(2, 1)", x.found(2, 1), 2);
        due("found(3, 0)", x.found(3, 0), 6);
        due("found(3, 1)", x.found(3, 1), 5);
        due("found(3, 2)", x.found(3, 2), LACKING);
        due("found(0, 0)", x.found(0, 0), 0);
        due("found(4, 0)", x.found(4, 0), 14);
        due("found(3, -2)", x.found(3, -2), NONE);
        due("found(5, 0)", x.found(5, 0), NONE);
        due("found(-1, 0)", x.found(-1, 0), NONE);
        x.points(1);
        due("fewer POINTS", x.found(2, -1), STATE);
        due("STATE ahead of -5", x.found(2, 9), STATE);
        due("NONE ahead of STATE", x.found(2, -2), NONE);
    }

    private static void feed() {
        promise = 17;
        DensitiesOfNets x = fresh();
        due("feed(-1)", x.feed(-1), BAD);
        due("feed(128)", x.feed(128), BAD);
        due("feed(0)", x.feed(0), 1);
        due("feed(127)", x.feed(127), 2);
        for (int i = 3; i <= 60; i++) {
            due("feed('1')", x.feed('1'), i);
        }
        due("feed beyond 60", x.feed('1'), FULL);
        due("BAD ahead of FULL", x.feed(128), BAD);
        due("count(0)", x.count(0), 60);
    }

    private static void readTexts() {
        promise = 18;
        DensitiesOfNets x = fresh();
        due("a NUMBER", read(x, 0, "007"), 1);
        holds(x, 0, 0, 7, 1);
        due("a fraction", read(x, 0, "6/8"), 1);
        holds(x, 0, 0, 3, 4);
        due("0", read(x, 0, "0/5"), 0);
        holds(x, 0);
        due("a FLAG", read(x, 0, "[20110]"), 1);
        holds(x, 0, 3, 1, 1);
        due("a ROOTED one", read(x, 0, "<312>"), 1);
        holds(x, 0, 6, 1, 1);
        due("ROOTED", x.sum(0, 1), 1);
        due("no POINTS", read(x, 0, "[0]"), 1);
        holds(x, 0, 0, 1, 1);
        due("four LINES", read(x, 0, "[401122330]"), 1);
        holds(x, 0, 16, 1, 1);
        due("order of TERMS", read(x, 0, "2*[301]-1/2*[2]+3"), 3);
        holds(x, 0, 0, 3, 1, 2, -1, 2, 5, 2, 1);
        due("* ahead of +", read(x, 0, "1+2*3"), 1);
        holds(x, 0, 0, 7, 1);
        due("- from the left", read(x, 0, "1-2-3"), 1);
        holds(x, 0, 0, -4, 1);
        due("( )", read(x, 0, "(1-(2-3))*[1]"), 1);
        holds(x, 0, 1, 2, 1);
        due("{ }", read(x, 0, "{<201>*<201>}"), 2);
        holds(x, 0, 6, 1, 3, 7, 1, 1);
        due("a NUMBER averaged stays", read(x, 0, "{5}+<1>"), 1);
        holds(x, 0, 0, 6, 1);
        due("ROOTED", x.sum(0, 1), 1);
        due("without TERMS it meets both", read(x, 0, "([1]-[1])*<1>+<2>-<2>+[2]"), 1);
        holds(x, 0, 2, 1, 1);
        due("without TERMS no SIZE", read(x, 0, "([3]-[3])*[3]"), 0);
        due("three open", read(x, 0, "(({<201>}))*(((1)))"), 1);
        holds(x, 0, 3, 1, 1);
        due("NONE", x.read(4), NONE);
        feed(x, "1");
        due("NONE", x.read(-1), NONE);
        due("THE TAPE stays by NONE", x.count(0), 1);
        due("read", x.read(3), 1);
        due("THE TAPE is empty", x.count(0), 0);
        holds(x, 3, 0, 1, 1);
        due("a FAULT", read(x, 3, "[1]+"), -1004);
        due("THE TAPE is empty", x.count(0), 0);
        holds(x, 3, 0, 1, 1);
    }

    private static void readFaultsOfKindOne() {
        promise = 18;
        reads("", -1000);
        reads("+1", -1000);
        reads("-1", -1000);
        reads(" 1", -1000);
        reads("1 ", -1001);
        reads("1+", -1002);
        reads("1++1", -1002);
        reads("1234", -1003);
        reads("[1]*1234", -1007);
        reads("1/", -1002);
        reads("1/[1]", -1002);
        reads("1/0", -1002);
        reads("1/000", -1002);
        reads("1/0000", -1005);
        reads("1/1234", -1005);
        reads("1/0x", -1002);
        reads("(1/0", -1003);
        reads("1/2/3", -1003);
        reads("(1)/2", -1003);
        reads("(1", -1002);
        reads("(1}", -1002);
        reads("{1)", -1002);
        reads("1)", -1001);
        reads("()", -1001);
        reads("((((1))))", -1003);
        reads("({({1})})", -1003);
        reads("(1)(1)", -1003);
        reads("[", -1001);
        reads("[]", -1001);
        reads("[2", -1002);
        reads("[2>", -1002);
        reads("<2]", -1002);
        reads("[2+1]", -1002);
        reads("[1234567890]", -1010);
        reads("2[1]", -1001);
        reads("[5]+", -1004);
    }

    private static void readFaultsOfKindTwo() {
        promise = 18;
        reads("[5]", -2000);
        reads("1+[9]", -2002);
        reads("<0>", -2000);
        reads("<5>", -2000);
        reads("[20]", -2000);
        reads("[200]", -2000);
        reads("[202]", -2000);
        reads("[101]", -2000);
        reads("[20110]", 1);
        reads("[1]*<201>+<32>", -2010);
        reads("[1]+<1>+[5]", -2008);
        reads("(<301300>-[4])*[20]", -2001);
    }

    private static void readFaultsOfWorkingOut() {
        promise = 18;
        reads("[1]+<1>", -3003);
        reads("[1]-<1>", -3003);
        reads("[1]*<1>", -3003);
        reads("[0]+<1>", -3003);
        reads("{[1]}", -3000);
        reads("1+{2*[1]}", -3002);
        reads("{{<1>}}", -3000);
        reads("[3]*[2]", -4003);
        reads("[2]*[2]", 6);
        reads("<3>*<3>", -4003);
        reads("<4>*<2>", -4003);
        reads("[1]*([2]+[4])", -4003);
        reads("0*[3]*[3]", 0);
        // the PRODUCT behind a sign is worked out before the sign
        reads("[1]+<1>*<4>*<2>", -4011);
        reads("[1]+<1>*1", -3003);
        reads("[1]+(<1>+[1])", -3008);
        reads("([1]+<1>)*[3]*[2]", -3004);
    }

    private static void readOver() {
        promise = 18;
        String large = "999*999*999*999*999*999";
        reads(large, 1);
        reads(large + "*999", -5023);
        reads(large + "*9+" + large + "*9", -5025);
        reads(large + "*9-" + large + "*9", 0);
        reads("(0-512)*512*512*512*512*512*512", 1);
        reads("512*512*512*512*512*512*512", -5023);
        reads("1-(0-512)*512*512*512*512*512*512", -5001);
        reads("1/997*1/991*1/983-1/977*1/971*1/967", 1);
        reads("1/997*1/991*1/983*1/977-1/971*1/967*1/953*1/947", -5023);
        reads("{<301>*1/997*1/991*1/983*1/977+<312>*1/971*1/967*1/953}", -5000);
        reads("1/997*1/991*1/983*1/977*1/971*1/967*1/953", -5035);
        // the COEFFICIENTS come ahead of JOINT
        reads("256*512*512*512*512*512*512*[2]*1/2*[2]", 6);
        reads("256*512*512*512*512*512*512*[2]*2*[2]", -5031);
    }

    private static void clear() {
        promise = 19;
        DensitiesOfNets x = fresh();
        due("it holds nothing", x.clear(0), 0);
        read(x, 0, "1+[1]");
        due("clear(0)", x.clear(0), 2);
        due("sum(0, 0)", x.sum(0, 0), STATE);
        due("clear(0)", x.clear(0), 0);
        due("clear(4)", x.clear(4), NONE);
        due("clear(-1)", x.clear(-1), NONE);
    }

    private static void sum() {
        promise = 20;
        DensitiesOfNets x = fresh();
        read(x, 1, "1+[301]");
        read(x, 2, "<1>+<201>");
        read(x, 3, "<1>-<1>");
        due("sum(1, 0)", x.sum(1, 0), 2);
        due("sum(1, 1)", x.sum(1, 1), 0);
        due("sum(1, 2)", x.sum(1, 2), 3);
        due("sum(2, 1)", x.sum(2, 1), 1);
        due("sum(2, 2)", x.sum(2, 2), 2);
        due("sum(3, 0)", x.sum(3, 0), 0);
        due("sum(3, 1)", x.sum(3, 1), 0);
        due("sum(3, 2)", x.sum(3, 2), LACKING);
        due("sum(0, 0)", x.sum(0, 0), STATE);
        due("NONE ahead of STATE", x.sum(0, 3), NONE);
        due("sum(1, -1)", x.sum(1, -1), NONE);
        due("sum(4, 0)", x.sum(4, 0), NONE);
        due("sum(-1, 0)", x.sum(-1, 0), NONE);
    }

    private static void term() {
        promise = 21;
        DensitiesOfNets x = fresh();
        due("it holds nothing", x.term(0, 0), STATE);
        due("NONE ahead of STATE", x.term(0, -1), NONE);
        read(x, 0, "[301]+[1]");
        due("term(0, 0)", x.term(0, 0), 1);
        due("term(0, 1)", x.term(0, 1), 5);
        due("term(0, 2)", x.term(0, 2), NONE);
        due("term(0, -1)", x.term(0, -1), NONE);
        due("term(4, 0)", x.term(4, 0), NONE);
        read(x, 1, "0");
        due("without TERMS", x.term(1, 0), NONE);
    }

    private static void coefficient() {
        promise = 22;
        DensitiesOfNets x = fresh();
        due("it holds nothing", x.coefficient(0, 0, 0), NO);
        read(x, 0, "[301]*4/6-[1]");
        fraction("0", x.coefficient(0, 0, 0), x.coefficient(0, 0, 1), -1, 1);
        fraction("1", x.coefficient(0, 1, 0), x.coefficient(0, 1, 1), 2, 3);
        due("coefficient(0, 2, 0)", x.coefficient(0, 2, 0), NO);
        due("coefficient(0, -1, 0)", x.coefficient(0, -1, 0), NO);
        due("coefficient(0, 0, 2)", x.coefficient(0, 0, 2), NO);
        due("coefficient(4, 0, 0)", x.coefficient(4, 0, 0), NO);
        due("coefficient(-1, 0, 0)", x.coefficient(-1, 0, 0), NO);
    }

    private static void makes() {
        promise = 23;
        DensitiesOfNets x = fresh();
        read(x, 0, "[201]");
        read(x, 1, "1/2-[201]");
        due("PLUS", x.makes(0, 1, 0, 2), 1);
        holds(x, 2, 0, 1, 2);
        due("LESS", x.makes(0, 1, 1, 2), 2);
        holds(x, 2, 0, -1, 2, 3, 2, 1);
        due("TIMES", x.makes(0, 0, 2, 2), 6);
        holds(x, 2, 13, 1, 3, 14, 1, 3, 15, 1, 3, 16, 2, 3, 17, 2, 3, 18, 1, 1);
        due("into one of the two", x.makes(0, 1, 1, 1), 2);
        holds(x, 1, 0, -1, 2, 3, 2, 1);
        due("to nothing", x.makes(0, 0, 1, 0), 0);
        holds(x, 0);
        read(x, 3, "<201>");
        due("without TERMS it goes with both", x.makes(0, 3, 1, 2), 1);
        holds(x, 2, 2, -1, 1);
        due("ROOTED", x.sum(2, 1), 1);
        due("TIMES nothing", x.makes(0, 3, 2, 2), 0);
        due("TIMES at the root", x.makes(3, 3, 2, 2), 2);
        holds(x, 2, 5, 1, 1, 8, 1, 1);
    }

    private static void makesRefused() {
        promise = 23;
        DensitiesOfNets x = fresh();
        read(x, 0, "[3]+[1]");
        read(x, 1, "<3>");
        due("makes(4, 0, 0, 0)", x.makes(4, 0, 0, 0), NONE);
        due("makes(0, -1, 0, 0)", x.makes(0, -1, 0, 0), NONE);
        due("makes(0, 0, 3, 0)", x.makes(0, 0, 3, 0), NONE);
        due("makes(0, 0, -1, 0)", x.makes(0, 0, -1, 0), NONE);
        due("makes(0, 0, 0, 4)", x.makes(0, 0, 0, 4), NONE);
        due("NONE ahead of STATE", x.makes(0, 2, 3, 0), NONE);
        due("makes(0, 2, 0, 3)", x.makes(0, 2, 0, 3), STATE);
        due("makes(2, 0, 0, 3)", x.makes(2, 0, 0, 3), STATE);
        due("makes(0, 1, 0, 3)", x.makes(0, 1, 0, 3), BAD);
        due("BAD ahead of FULL", x.makes(0, 1, 2, 3), BAD);
        due("FLAGS beyond 4", x.makes(0, 0, 2, 3), FULL);
        due("ROOTED beyond 4", x.makes(1, 1, 2, 3), FULL);
        due("nothing changed", x.sum(3, 0), STATE);
        read(x, 2, "[1]*999*999*999*999*999*999");
        due("OVER", x.makes(2, 2, 2, 3), OVER);
        read(x, 3, "[3]*999*999*999*999*999*999");
        due("FULL ahead of OVER", x.makes(3, 3, 2, 3), FULL);
        holds(x, 3, 4, 994014980014994001L, 1);
        read(x, 3, "[1]*9*999*999*999*999*999*999");
        due("OVER by PLUS", x.makes(3, 3, 0, 3), OVER);
        holds(x, 3, 1, 8946134820134946009L, 1);
        read(x, 3, "[1]*(0-512)*512*512*512*512*512*512");
        due("OVER by LESS", x.makes(0, 3, 1, 3), OVER);
        due("none by PLUS", x.makes(0, 3, 0, 3), 2);
    }

    private static void lift() {
        promise = 24;
        DensitiesOfNets x = fresh();
        read(x, 0, "[201]");
        due("lift(0, 3)", x.lift(0, 3), 3);
        holds(x, 0, 5, 1, 3, 6, 2, 3, 7, 1, 1);
        due("lift(0, 2)", x.lift(0, 2), BAD);
        due("lift(0, 5)", x.lift(0, 5), NONE);
        due("lift(0, -1)", x.lift(0, -1), NONE);
        due("lift(4, 3)", x.lift(4, 3), NONE);
        due("lift(1, 3)", x.lift(1, 3), STATE);
        due("NONE ahead of STATE", x.lift(1, 5), NONE);
        due("lift(0, 3)", x.lift(0, 3), 3);
        read(x, 1, "2");
        due("FLAG 0", x.lift(1, 2), 2);
        holds(x, 1, 2, 2, 1, 3, 2, 1);
        read(x, 2, "<201>");
        due("ROOTED to SIZE 0", x.lift(2, 0), BAD);
        due("ROOTED", x.lift(2, 3), 4);
        holds(x, 2, 4, 1, 2, 5, 1, 1, 7, 1, 2, 8, 1, 1);
        read(x, 3, "<1>-<1>");
        due("without TERMS", x.lift(3, 0), 0);
        read(x, 3, "[201]*1/997*1/991*1/983*1/977*1/971*1/967");
        due("not OVER", x.lift(3, 3), 3);
        due("near to OVER", read(x, 3, "[201]*1/997*1/991*1/983*1/977*1/971*1/967*1/7"), 1);
        due("OVER", x.lift(3, 3), OVER);
        due("nothing changed", x.term(3, 0), 3);
    }

    private static void average() {
        promise = 25;
        DensitiesOfNets x = fresh();
        read(x, 0, "<312>+2*<301>+3*<201>+<1>");
        due("average(0)", x.average(0), 3);
        // <312>: 1 of 3 POINTS, <301>: 2 of 3
        holds(x, 0, 1, 1, 1, 3, 3, 1, 5, 5, 3);
        due("FLAGS", x.sum(0, 1), 0);
        due("average(0)", x.average(0), BAD);
        due("average(1)", x.average(1), STATE);
        due("average(4)", x.average(4), NONE);
        due("average(-1)", x.average(-1), NONE);
        read(x, 1, "[1]-[1]");
        due("without TERMS", x.average(1), 0);
        read(x, 2, "<301>-2*<312>");
        due("to nothing", x.average(2), 0);
        read(x, 2, "<301>*1/997*1/991*1/983*1/977+<312>*1/971*1/967*1/953");
        due("OVER", x.average(2), OVER);
        due("nothing changed", x.sum(2, 1), 1);
    }

    private static void bound() {
        promise = 26;
        DensitiesOfNets x = fresh();
        read(x, 0, "[201]-1/2");
        fraction("least", x.bound(0, 3, 0, 0), x.bound(0, 3, 0, 1), -1, 2);
        fraction("greatest", x.bound(0, 3, 1, 0), x.bound(0, 3, 1, 1), 1, 2);
        read(x, 1, "[3]");
        fraction("0 by 1", x.bound(1, 3, 0, 0), x.bound(1, 3, 0, 1), 0, 1);
        fraction("SIZE 4", x.bound(1, 4, 1, 0), x.bound(1, 4, 1, 1), 1, 1);
        due("a TERM of a greater SIZE", x.bound(1, 2, 0, 0), NO);
        due("it holds nothing", x.bound(2, 3, 0, 0), NO);
        read(x, 2, "0");
        fraction("without TERMS", x.bound(2, 0, 1, 0), x.bound(2, 0, 1, 1), 0, 1);
        read(x, 2, "<1>");
        due("ROOTED", x.bound(2, 3, 0, 0), NO);
        due("bound(4, 3, 0, 0)", x.bound(4, 3, 0, 0), NO);
        due("bound(0, 5, 0, 0)", x.bound(0, 5, 0, 0), NO);
        due("bound(0, -1, 0, 0)", x.bound(0, -1, 0, 0), NO);
        due("bound(0, 3, 2, 0)", x.bound(0, 3, 2, 0), NO);
        due("bound(0, 3, 0, 2)", x.bound(0, 3, 0, 2), NO);
        due("near to OVER", read(x, 3, "[201]*1/997*1/991*1/983*1/977*1/971*1/967*1/7"), 1);
        due("OVER", x.bound(3, 3, 0, 0), NO);
        holds(x, 0, 0, -1, 2, 3, 1, 1);
        // too near to one another for cross products
        read(x, 3, "997*991*983*977*971*967/953*[301]");
        read(x, 2, "(1/953+997*991*983*977*971*967/953)*[312]");
        x.makes(3, 2, 0, 3);
        fraction("near", x.bound(3, 3, 1, 0), x.bound(3, 3, 1, 1), x.coefficient(3, 0, 0), x.coefficient(3, 0, 1));
        read(x, 2, "997*991*983*977*971*967/953*[3]");
        read(x, 3, "(1/953+997*991*983*977*971*967/953)*[301]");
        x.makes(3, 2, 0, 1);
        x.makes(2, 3, 0, 0);
        due("the greater is the later", x.bound(1, 3, 1, 0), x.coefficient(1, 1, 0));
        due("it is not the first", x.coefficient(1, 0, 0) < x.coefficient(1, 1, 0) ? 1 : 0, 1);
    }

    private static void value() {
        promise = 27;
        DensitiesOfNets x = row(4);
        read(x, 0, "2*[201]-1/3*[301]+5");
        // 2/2 - 1/6 + 5
        fraction("value(0)", x.value(0, 0), x.value(0, 1), 35, 6);
        due("it holds nothing", x.value(1, 0), NO);
        due("value(0, 2)", x.value(0, 2), NO);
        due("value(4, 0)", x.value(4, 0), NO);
        read(x, 1, "<1>");
        due("ROOTED", x.value(1, 0), NO);
        read(x, 1, "<1>-<1>");
        fraction("without TERMS", x.value(1, 0), x.value(1, 1), 0, 1);
        x.points(2);
        due("more POINTS than there are", x.value(0, 0), NO);
        x = row(8);
        due("near to OVER", read(x, 0, "[201]*1/997*1/991*1/983*1/977*1/971*1/967*1/7"), 1);
        due("OVER", x.value(0, 0), NO);
    }

    private static void valueAt() {
        promise = 28;
        DensitiesOfNets x = row(4);
        read(x, 0, "2*<201>-1/2*<302>+5");
        // at 1: 4/3 - 1/6 + 5, at 0: 2/3 - 2/6 + 5
        fraction("at 1", x.valueAt(0, 1, 0), x.valueAt(0, 1, 1), 37, 6);
        fraction("at 0", x.valueAt(0, 0, 0), x.valueAt(0, 0, 1), 11, 2);
        due("valueAt(0, 4, 0)", x.valueAt(0, 4, 0), NO);
        due("valueAt(0, -1, 0)", x.valueAt(0, -1, 0), NO);
        due("valueAt(0, 0, 2)", x.valueAt(0, 0, 2), NO);
        due("valueAt(4, 0, 0)", x.valueAt(4, 0, 0), NO);
        due("it holds nothing", x.valueAt(1, 0, 0), NO);
        read(x, 1, "1");
        due("FLAGS", x.valueAt(1, 0, 0), NO);
        read(x, 1, "0");
        fraction("without TERMS", x.valueAt(1, 0, 0), x.valueAt(1, 0, 1), 0, 1);
        x.points(2);
        due("more POINTS than there are", x.valueAt(0, 0, 0), NO);
        x = row(8);
        due("near to OVER", read(x, 0, "<201>*1/997*1/991*1/983*1/977*1/971*1/967*1/7"), 1);
        due("OVER", x.valueAt(0, 0, 0), NO);
    }

    private static void move() {
        promise = 29;
        DensitiesOfNets x = fresh();
        read(x, 0, "1+[1]");
        due("move(0, 3)", x.move(0, 3), 2);
        holds(x, 3, 0, 1, 1, 1, 1, 1);
        holds(x, 0, 0, 1, 1, 1, 1, 1);
        due("move(0, 0)", x.move(0, 0), 2);
        due("nothing, too", x.move(1, 0), 0);
        due("sum(0, 0)", x.sum(0, 0), STATE);
        due("move(2, 2)", x.move(2, 2), 0);
        due("sum(2, 0)", x.sum(2, 0), STATE);
        due("move(4, 0)", x.move(4, 0), NONE);
        due("move(0, -1)", x.move(0, -1), NONE);
        holds(x, 3, 0, 1, 1, 1, 1, 1);
    }

    private static void film() {
        promise = 30;
        DensitiesOfNets x = row(4);
        due("film(0, 3)", x.film(0, 3), 2);
        holds(x, 0, 5, 1, 2, 6, 1, 2);
        due("film(0, 0)", x.film(0, 0), 1);
        holds(x, 0, 0, 1, 1);
        due("film(0, 5)", x.film(0, 5), NONE);
        due("film(0, -1)", x.film(0, -1), NONE);
        due("film(4, 1)", x.film(4, 1), NONE);
        x.points(2);
        due("fewer POINTS", x.film(0, 3), STATE);
        due("NONE ahead of STATE", x.film(4, 3), NONE);
        holds(x, 0, 0, 1, 1);
    }

    private static void image() {
        promise = 31;
        DensitiesOfNets x = row(3);
        due("image()", x.image(), 3);
        x.points(5);
        due("image()", x.image(), 5);
        x.points(0);
        due("back()", x.back(), 5);
        due("told(1)", x.told(1), 0);
    }

    private static void back() {
        promise = 32;
        DensitiesOfNets x = row(3);
        due("there is none", x.back(), STATE);
        read(x, 0, "<201>");
        read(x, 1, "2");
        x.image();
        x.line(0, 1, 0);
        x.average(0);
        x.clear(1);
        read(x, 2, "7");
        feed(x, "123");
        due("back()", x.back(), 3);
        due("beside(0)", x.beside(0), 2);
        holds(x, 0, 2, 1, 1);
        due("ROOTED", x.sum(0, 1), 1);
        holds(x, 1, 0, 2, 1);
        due("sum(2, 0)", x.sum(2, 0), STATE);
        due("THE TAPE is not kept", x.count(0), 3);
        x.points(8);
        x.clear(0);
        due("back() again", x.back(), 3);
        due("beside(1)", x.beside(1), 5);
        holds(x, 0, 2, 1, 1);
    }

    private static void count() {
        promise = 33;
        DensitiesOfNets x = fresh();
        read(x, 0, "1+[1]");
        read(x, 2, "0");
        read(x, 3, "<1>+<2>+<201>");
        feed(x, "12");
        due("count(0)", x.count(0), 2);
        due("count(1)", x.count(1), 3);
        due("count(2)", x.count(2), 5);
        due("count(3)", x.count(3), NONE);
        due("count(-1)", x.count(-1), NONE);
    }
}
