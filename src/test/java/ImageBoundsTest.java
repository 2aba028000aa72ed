/** Promises 31 to 33: THE IMAGE that is not yet there, taken again, of nothing and of all; and what is counted. */
public final class ImageBoundsTest {
    private static final String ALL_FLAGS = "(1+[1]+[2]+[201])*(1+[1]+[2]+[201])";
    private static final String ALL_ROOTED = "(1+<2>+<201>)*(1+<2>+<201>)*(1+<2>+<201>)";

    public static void main(String[] args) {
        noImageYet();
        imageOfNothing();
        imageOfAll();
        imageTellsPoints();
        imageIsTakenAgain();
        imageIsACopy();
        backAgainAndAgain();
        tapeIsNotKept();
        storesThatHeldNothing();
        countNumbers();
        countOfNothing();
        countOfAll();
        Checks.end();
    }

    private static void noImageYet() {
        Checks.about("back: STATE: there is none");
        Checks.leavesAll("back()", () -> {
            DensitiesOfNets x = Checks.holding("1+[1]", "<4>");
            Checks.draw(x, 5, 0, 1, 3, 4);
            Checks.feed(x, "12");
            return x;
        }, Checks.STATE, DensitiesOfNets::back);
        DensitiesOfNets x = Checks.fresh();
        Checks.due("back()", x.back(), Checks.STATE);
        Checks.due("back() again", x.back(), Checks.STATE);
        Checks.due("image()", x.image(), 0);
        Checks.due("back()", x.back(), 0);
    }

    private static void imageOfNothing() {
        Checks.about("THE IMAGE of a new object");
        DensitiesOfNets x = Checks.fresh();
        Checks.due("image()", x.image(), 0);
        Checks.draw(x, 8, 6, 7);
        for (int store = 0; store < 4; store++) {
            Checks.read(x, store, "1+[1]");
        }
        Checks.due("back()", x.back(), 0);
        Checks.due("told(0)", x.told(0), 0);
        Checks.due("told(1)", x.told(1), 0);
        for (int store = 0; store < 4; store++) {
            Checks.holdsNothing(x, store);
        }
        Checks.due("points(8)", x.points(8), 0);
        Checks.due("told(1)", x.told(1), 0);
    }

    private static void imageOfAll() {
        Checks.about("THE IMAGE of 8 POINTS with all LINES and of STORES with all TERMS");
        DensitiesOfNets x = Checks.fullNet(8);
        Checks.read(x, 0, ALL_FLAGS);
        Checks.read(x, 1, "2*[1]-1/3");
        Checks.read(x, 2, "0");
        Checks.read(x, 3, ALL_ROOTED);
        Checks.due("image()", x.image(), 8);
        x.points(3);
        for (int store = 0; store < 4; store++) {
            x.clear(store);
        }
        Checks.due("back()", x.back(), 8);
        Checks.due("told(1)", x.told(1), 28);
        Checks.due("beside(7)", x.beside(7), 127);
        Checks.due("sum(0, 0)", x.sum(0, 0), 19);
        Checks.due("term(0, 18)", x.term(0, 18), 18);
        Checks.holds(x, 1, 0, -1, 3, 1, 2, 1);
        Checks.holds(x, 2);
        Checks.due("sum(3, 0)", x.sum(3, 0), 29);
        Checks.due("sum(3, 1)", x.sum(3, 1), 1);
        Checks.due("term(3, 28)", x.term(3, 28), 28);
    }

    private static void imageTellsPoints() {
        Checks.about("image, back: how many POINTS");
        for (int n = 0; n <= 8; n++) {
            DensitiesOfNets x = Checks.net(n);
            Checks.due("image() of " + n + " POINTS", x.image(), n);
            x.points(8 - n);
            Checks.due("back() to " + n + " POINTS", x.back(), n);
            Checks.due("told(0)", x.told(0), n);
        }
    }

    private static void imageIsTakenAgain() {
        Checks.about("THE IMAGE is taken: the later one is gone back to");
        DensitiesOfNets x = Checks.holding("1");
        Checks.draw(x, 3, 0, 1);
        x.image();
        Checks.read(x, 0, "2");
        Checks.draw(x, 4, 1, 2);
        Checks.due("image()", x.image(), 4);
        x.clear(0);
        x.points(0);
        Checks.due("back()", x.back(), 4);
        Checks.holds(x, 0, 0, 2, 1);
        Checks.due("beside(1)", x.beside(1), 4);
        Checks.due("beside(0)", x.beside(0), 0);
    }

    private static void imageIsACopy() {
        Checks.about("what comes later doesn't come to THE IMAGE, nor what comes behind back");
        DensitiesOfNets x = Checks.holding("<301>", "[2]");
        Checks.draw(x, 3, 0, 1);
        x.image();
        for (int turn = 0; turn < 3; turn++) {
            x.line(0, 1, 0);
            x.line(1, 2, 1);
            x.average(0);
            x.lift(1, 3);
            Checks.due("back()", x.back(), 3);
            Checks.due("beside(0)", x.beside(0), 2);
            Checks.due("beside(2)", x.beside(2), 0);
            Checks.holds(x, 0, 4, 1, 1);
            Checks.due("ROOTED", x.sum(0, 1), 1);
            Checks.holds(x, 1, 2, 1, 1);
        }
    }

    private static void backAgainAndAgain() {
        Checks.about("back leaves THE IMAGE, so it can be gone back to again");
        DensitiesOfNets x = Checks.holding("7");
        x.points(5);
        x.image();
        Checks.due("back() at once", x.back(), 5);
        Checks.due("back() at once", x.back(), 5);
        Checks.holds(x, 0, 0, 7, 1);
        x.points(9);
        x.lift(0, 9);
        Checks.due("behind what was refused", x.back(), 5);
        Checks.holds(x, 0, 0, 7, 1);
    }

    private static void tapeIsNotKept() {
        Checks.about("THE IMAGE keeps THE NETWORK, STORES");
        DensitiesOfNets x = Checks.fresh();
        Checks.feed(x, "12");
        x.image();
        Checks.feed(x, "3");
        Checks.due("back()", x.back(), 0);
        Checks.due("count(0)", x.count(0), 3);
        Checks.due("read(0)", x.read(0), 1);
        Checks.holds(x, 0, 0, 123, 1);
        Checks.due("back()", x.back(), 0);
        Checks.due("no bytes come back", x.count(0), 0);
        Checks.holdsNothing(x, 0);
        DensitiesOfNets y = Checks.fresh();
        y.image();
        for (int i = 1; i <= 60; i++) {
            y.feed('1');
        }
        y.back();
        Checks.due("it is as full as it was", y.feed('1'), Checks.FULL);
    }

    private static void storesThatHeldNothing() {
        Checks.about("a STORE that held nothing holds nothing again, one without TERMS holds its SUM");
        DensitiesOfNets x = Checks.holding(null, "0", "1");
        x.image();
        Checks.read(x, 0, "5");
        x.clear(1);
        x.move(3, 2);
        Checks.due("count(1)", x.count(1), 1);
        x.back();
        Checks.holdsNothing(x, 0);
        Checks.holds(x, 1);
        Checks.holds(x, 2, 0, 1, 1);
        Checks.holdsNothing(x, 3);
        Checks.due("count(1)", x.count(1), 2);
        Checks.due("count(2)", x.count(2), 1);
    }

    // ---- count

    private static void countNumbers() {
        Checks.about("count: NONE");
        Checks.range("count(..) of nothing", 0, 2, Checks.NONE, Checks.fresh()::count);
        Checks.range("count(..)", 0, 2, Checks.NONE, Checks.holding("1", "<1>")::count);
    }

    private static void countOfNothing() {
        Checks.about("count of an empty TAPE, of STORES that hold nothing, of SUMS without TERMS");
        DensitiesOfNets x = Checks.fresh();
        for (int what = 0; what <= 2; what++) {
            Checks.due("count(" + what + ")", x.count(what), 0);
        }
        for (int store = 0; store < 4; store++) {
            Checks.read(x, store, "0");
            Checks.due("count(1)", x.count(1), store + 1);
            Checks.due("count(2)", x.count(2), 0);
            Checks.due("count(0)", x.count(0), 0);
        }
        for (int store = 3; store >= 0; store--) {
            x.clear(store);
            Checks.due("count(1)", x.count(1), store);
        }
    }

    private static void countOfAll() {
        Checks.about("count of 60 bytes, of 4 STORES, of TERMS of all");
        DensitiesOfNets x = Checks.holding(ALL_ROOTED);
        for (int store = 1; store < 4; store++) {
            x.move(0, store);
            Checks.due("count(1)", x.count(1), store + 1);
            Checks.due("count(2)", x.count(2), 29 * (store + 1));
        }
        for (int i = 1; i <= 60; i++) {
            x.feed('x');
            Checks.due("count(0)", x.count(0), i);
        }
        x.feed('x');
        Checks.due("count(0)", x.count(0), 60);
        Checks.due("a FAULT", x.read(0), -1000);
        Checks.due("count(0)", x.count(0), 0);
        Checks.due("count(1)", x.count(1), 4);
        Checks.due("count(2)", x.count(2), 116);
        Checks.read(x, 1, ALL_FLAGS);
        Checks.due("count(2)", x.count(2), 106);
    }
}
