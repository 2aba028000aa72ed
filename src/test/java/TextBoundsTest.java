/** Promises 17 and 18: the edges of THE TAPE and of a TEXT, and which place each kind of FAULT tells. */
public final class TextBoundsTest {
    /** 28 and 20. */
    private static final String SIXTY = "1+".repeat(28) + "2*10";

    public static void main(String[] args) {
        feedNumbers();
        feedSixty();
        tapeAfterRefusals();
        readNumbers();
        tapeIsEmptyThen();
        sixtyBytes();
        faultsAtTheEndOfSixty();
        emptyTape();
        everyFirstByte();
        everyByteBehindOne();
        everyByteBehindOpening();
        everyByteWithinFigures();
        numberFigures();
        numberBehindTheLine();
        networkFigures();
        threeOpen();
        deepest();
        closing();
        noSuchNetwork();
        sizesOfNetworks();
        linesOfNetworks();
        kindOneAheadOfTwo();
        kindTwoAheadOfThree();
        kindThree();
        kindThreeOfAveraging();
        kindFour();
        kindFourNeedsTerms();
        orderOfFaults();
        ofNeitherKind();
        atLastFlags();
        orderOfSigns();
        termsOfRead();
        nothingIsLeftOver();
        Checks.end();
    }

    // ---- feed

    private static void feedNumbers() {
        Checks.about("feed: a byte (0 .. 127); BAD");
        DensitiesOfNets x = Checks.fresh();
        Checks.range("feed(..)", 0, 127, Checks.BAD, x::feed);
        Checks.due("count(0): two were taken", x.count(0), 2);
        Checks.due("feed(128)", x.feed(128), Checks.BAD);
        Checks.due("feed(256)", x.feed(256), Checks.BAD);
        Checks.due("feed('1' + 65536)", x.feed('1' + 65536), Checks.BAD);
        Checks.due("feed('1' - 256)", x.feed('1' - 256), Checks.BAD);
        Checks.due("count(0): no more", x.count(0), 2);
    }

    private static void feedSixty() {
        Checks.about("THE TAPE (60 bytes at most); BAD; FULL");
        DensitiesOfNets x = Checks.fresh();
        for (int i = 1; i <= 60; i++) {
            Checks.due("byte " + i, x.feed(SIXTY.charAt(i - 1)), i);
            Checks.due("count(0)", x.count(0), i);
        }
        Checks.due("byte 61", x.feed('1'), Checks.FULL);
        Checks.due("byte 0 behind 60", x.feed(0), Checks.FULL);
        Checks.due("BAD ahead of FULL", x.feed(-1), Checks.BAD);
        Checks.due("BAD ahead of FULL", x.feed(128), Checks.BAD);
        Checks.due("BAD ahead of FULL", x.feed(Integer.MAX_VALUE), Checks.BAD);
        Checks.due("count(0)", x.count(0), 60);
        Checks.due("what is refused is not there", x.read(0), 1);
        Checks.holds(x, 0, 0, 48, 1);
        Checks.due("there is room again", x.feed('7'), 1);
    }

    private static void tapeAfterRefusals() {
        Checks.about("a refused byte is not on THE TAPE");
        DensitiesOfNets x = Checks.fresh();
        x.feed('1');
        x.feed(-1);
        x.feed('2');
        x.feed(128);
        x.feed('3');
        Checks.due("read(0)", x.read(0), 1);
        Checks.holds(x, 0, 0, 123, 1);
    }

    // ---- read, and THE TAPE

    private static void readNumbers() {
        Checks.about("read: NONE: store");
        DensitiesOfNets x = Checks.fresh();
        Checks.range("read(..) of 7", 0, 3, Checks.NONE, store -> {
            Checks.feed(x, "7");
            return x.read(store);
        });
        for (int store = 1; store < 3; store++) {
            Checks.holdsNothing(x, store);
        }
        Checks.due("the refused ones' bytes are there", x.count(0), 4);
    }

    private static void tapeIsEmptyThen() {
        Checks.about("THE TAPE is empty then (by a FAULT, too, but not by NONE)");
        DensitiesOfNets x = Checks.holding("5");
        String[] faults = {"1+", "[9]", "[1]+<1>", "[4]*[1]", Checks.GREATEST + "+1"};
        int[] due = {-1002, -2000, -3003, -4003, -5039};
        for (int i = 0; i < faults.length; i++) {
            Checks.due("feed of " + faults[i], Checks.feed(x, faults[i]), faults[i].length());
            Checks.due("NONE", x.read(4), Checks.NONE);
            Checks.due("THE TAPE stays", x.count(0), faults[i].length());
            Checks.due("read of " + faults[i], x.read(0), due[i]);
            Checks.due("THE TAPE is empty", x.count(0), 0);
            Checks.holds(x, 0, 0, 5, 1);
            Checks.due("the next byte is the first", x.feed('1'), 1);
            Checks.due("NONE ahead of a FAULT", x.read(-1), Checks.NONE);
            Checks.due("read of 1", x.read(1), 1);
            Checks.due("THE TAPE is empty", x.count(0), 0);
        }
    }

    private static void sixtyBytes() {
        Checks.about("60 bytes are read");
        DensitiesOfNets x = Checks.fresh();
        Checks.due("bytes", Checks.feed(x, SIXTY), 60);
        Checks.due("read(3)", x.read(3), 1);
        Checks.holds(x, 3, 0, 48, 1);
        // 15 FLAGS of 3 bytes with 15 signs
        StringBuilder ones = new StringBuilder("[1]");
        for (int i = 0; i < 14; i++) {
            ones.append(i % 2 == 0 ? "+[1]" : "-[2]");
        }
        ones.append('+');
        Checks.due("bytes", Checks.feed(x, ones.toString()), 60);
        Checks.due("it ends too early at 60", x.read(3), -1060);
        ones.setLength(59);
        Checks.due("bytes", Checks.feed(x, ones.toString()), 59);
        Checks.due("read(3)", x.read(3), 2);
        Checks.holds(x, 3, 1, 8, 1, 2, -7, 1);
    }

    private static void faultsAtTheEndOfSixty() {
        Checks.about("the place of a byte, the last of 60, too; the size, if it ends too early");
        StringBuilder filled = new StringBuilder("1");
        for (int i = 0; i < 29; i++) {
            filled.append("+1");
        }
        Checks.reads(filled + "x", -1059);
        Checks.reads(filled + "+", -1060);
        Checks.reads(filled + "2", 1);
        filled.setLength(57);
        Checks.reads(filled + "*[5", -1060);
        filled.setLength(56);
        Checks.reads(filled + "[5]", -2056);
        Checks.reads(filled + "[1]-", -1060);
        Checks.reads(filled + "((((", -1059);
        Checks.reads(filled + "(((", -1059);
        Checks.reads(filled + "(1)", 1);
        filled.setLength(54);
        Checks.reads(filled + "+<1>", -1054);
    }

    private static void emptyTape() {
        Checks.about("an empty TAPE ends too early: its size is 0");
        DensitiesOfNets x = Checks.holding("5");
        Checks.due("read(0)", x.read(0), -1000);
        Checks.holds(x, 0, 0, 5, 1);
        Checks.due("read(1)", x.read(1), -1000);
        Checks.holdsNothing(x, 1);
        Checks.due("read(4)", x.read(4), Checks.NONE);
    }

    // ---- kind 1

    /** What a byte behind a text is answered: a FAULT of kind 1 at its place, but for those told. */
    private static void onlyThese(String ahead, String taken) {
        for (int sign = 0; sign <= 127; sign++) {
            DensitiesOfNets x = Checks.fresh();
            Checks.feed(x, ahead);
            x.feed(sign);
            int answer = x.read(0);
            boolean isTaken = answer != -1000 - ahead.length();
            Checks.must("byte " + sign + " behind " + ahead, isTaken == taken.indexOf(sign) >= 0);
        }
    }

    private static void everyFirstByte() {
        Checks.about("a ONE: a NUMBER, [, <, ( or {");
        onlyThese("", "0123456789[<({");
        onlyThese("1+", "0123456789[<({");
        onlyThese("1-", "0123456789[<({");
        onlyThese("[1]*", "0123456789[<({");
        onlyThese("(", "0123456789[<({");
        onlyThese("{(", "0123456789[<({");
        onlyThese("((1)+{", "0123456789[<({");
        onlyThese("({(", "0123456789[<");
        onlyThese("(((1)*", "0123456789[<({");
        onlyThese("(((1*", "0123456789[<");
    }

    private static void everyByteBehindOne() {
        Checks.about("behind a ONE: +, -, *, and what closes what is open");
        onlyThese("[1]", "+-*");
        onlyThese("<1>", "+-*");
        onlyThese("(1)", "+-*");
        onlyThese("{1}", "+-*");
        onlyThese("1/2", "+-*0123456789");
        onlyThese("1/222", "+-*");
        onlyThese("123", "+-*/");
        onlyThese("12", "+-*/0123456789");
        onlyThese("([1]", "+-*)");
        onlyThese("{[1]", "+-*}");
        onlyThese("{(1", "+-*)/0123456789");
        onlyThese("({1", "+-*}/0123456789");
        onlyThese("({1}", "+-*)");
        onlyThese("{(1)", "+-*}");
        onlyThese("((1))", "+-*");
    }

    private static void everyByteBehindOpening() {
        Checks.about("behind [ or <: figures, one at least");
        onlyThese("[", "0123456789");
        onlyThese("<", "0123456789");
        onlyThese("1*[", "0123456789");
    }

    private static void everyByteWithinFigures() {
        Checks.about("behind figures: more of them, or what closes");
        onlyThese("[2", "0123456789]");
        onlyThese("<2", "0123456789>");
        onlyThese("[20101010", "0123456789]");
        onlyThese("[201010101", "]");
        onlyThese("<201010101", ">");
        onlyThese("1/", "123456789");
    }

    private static void numberFigures() {
        Checks.about("a NUMBER: 1 to 3 figures (a fourth one can't stand: its place)");
        Checks.reads("0", 0);
        Checks.reads("9", 1);
        Checks.reads("00", 0);
        Checks.reads("999", 1);
        Checks.reads("000", 0);
        Checks.reads("0000", -1003);
        Checks.reads("0001", -1003);
        Checks.reads("1000", -1003);
        Checks.reads("9999", -1003);
        Checks.reads("99999", -1003);
        Checks.reads("[1]*1000", -1007);
        Checks.reads("1/1000", -1005);
        Checks.reads("1/9999", -1005);
        Checks.reads("1000/0", -1003);
        Checks.reads("(1000)", -1004);
        DensitiesOfNets x = Checks.holding("999/999", "001", "999", "1/999");
        Checks.holds(x, 0, 0, 1, 1);
        Checks.holds(x, 1, 0, 1, 1);
        Checks.holds(x, 2, 0, 999, 1);
        Checks.holds(x, 3, 0, 1, 999);
    }

    private static void numberBehindTheLine() {
        Checks.about("behind / a NUMBER that is 0 can't stand: where it begins; a fourth figure ahead of it");
        Checks.reads("1/0", -1002);
        Checks.reads("1/00", -1002);
        Checks.reads("1/000", -1002);
        Checks.reads("1/001", 1);
        Checks.reads("1/010", 1);
        Checks.reads("1/0000", -1005);
        Checks.reads("1/0001", -1005);
        Checks.reads("0/0", -1002);
        Checks.reads("0/1", 0);
        Checks.reads("0/999", 0);
        Checks.reads("999/0", -1004);
        Checks.reads("999/0000", -1007);
        Checks.reads("1/0+", -1002);
        Checks.reads("1/0*[9]", -1002);
        Checks.reads("1/0/", -1002);
        Checks.reads("1/0 ", -1002);
        Checks.reads("(1/0)", -1003);
        Checks.reads("2+{[1]-3/0}", -1009);
        Checks.reads("1/", -1002);
        Checks.reads("1//2", -1002);
        Checks.reads("1/-2", -1002);
        Checks.reads("1/(2)", -1002);
        Checks.reads("1/2/3", -1003);
        Checks.reads("[1]/2", -1003);
        Checks.reads("/2", -1000);
        DensitiesOfNets x = Checks.holding("4/006", "6/3");
        Checks.holds(x, 0, 0, 2, 3);
        Checks.holds(x, 1, 0, 2, 1);
    }

    private static void networkFigures() {
        Checks.about("figures of a network: one at least, 9 at most");
        Checks.reads("[]", -1001);
        Checks.reads("<>", -1001);
        Checks.reads("[1]", 1);
        Checks.reads("[401122330]", 1);
        Checks.reads("<401122330>", 1);
        Checks.reads("[4011223300]", -1010);
        Checks.reads("<4011223300>", -1010);
        Checks.reads("[40112233001]", -1010);
        Checks.reads("[999999999]", -2000);
        Checks.reads("[9999999999]", -1010);
        Checks.reads("1+[4011223300]", -1012);
        Checks.reads("[401122330", -1010);
        Checks.reads("[40112233", -1009);
        Checks.reads("[401122330>", -1010);
    }

    private static void threeOpen() {
        Checks.about("at most 3 ( and { are open at once");
        Checks.reads("(1)", 1);
        Checks.reads("((1))", 1);
        Checks.reads("(((1)))", 1);
        Checks.reads("{{{1}}}", 1);
        Checks.reads("({(1)})", 1);
        Checks.reads("((((1))))", -1003);
        Checks.reads("{{{{1}}}}", -1003);
        Checks.reads("({({", -1003);
        Checks.reads("(((", -1003);
        Checks.reads("((((", -1003);
        Checks.reads("(((1+(", -1005);
        Checks.reads("(((1)*{", -1007);
        Checks.reads("(((1)*{(", -1007);
        Checks.reads("(((1)*(2)))", 1);
        Checks.reads("(((1))*((2)))", 1);
        Checks.reads("(((1)))*(((2)))", 1);
        Checks.reads("((1)*((1)*(1)))", 1);
        Checks.reads("((1)*((1)*((1))))", -1011);
        Checks.reads("(1)*(1)*(1)*(1)*(1)", 1);
    }

    private static void deepest() {
        Checks.about("3 are open, and a SUM, a PRODUCT and a ONE wait in each");
        DensitiesOfNets x = Checks.holding("2+3*(5+7*(11+13*(17+19*23)))", "2-3*{5-7*(11-13*(17-19*<1>))}",
            "(1-2*(3-4*(5-6*7)))*1/8", "1+[1]*([1]+[1]*(2+3*([1]-4*[1])))");
        Checks.holds(x, 0, 0, 2 + 3 * (5 + 7 * (11 + 13 * (17 + 19 * 23))), 1);
        Checks.holds(x, 1, 0, 2, 1, 1, -3 * (5 - 7 * (11 - 13 * (17 - 19))), 1);
        Checks.holds(x, 2, 0, 1 - 2 * (3 - 4 * (5 - 6 * 7)), 8);
        // 1, 1 + 2 = 3 times two POINTS, -9 times three
        Checks.holds(x, 3, 0, 1, 1, 2, 3, 1, 3, 3, 1, 4, -9, 1, 5, -9, 1, 6, -9, 1, 7, -9, 1);
    }

    private static void closing() {
        Checks.about("what is open is closed by its like");
        Checks.reads(")", -1000);
        Checks.reads("}", -1000);
        Checks.reads("]", -1000);
        Checks.reads(">", -1000);
        Checks.reads("1)", -1001);
        Checks.reads("(1))", -1003);
        Checks.reads("{1}}", -1003);
        Checks.reads("(1}", -1002);
        Checks.reads("{1)", -1002);
        Checks.reads("({1)}", -1003);
        Checks.reads("{(1})", -1003);
        Checks.reads("(1", -1002);
        Checks.reads("{<1>", -1004);
        Checks.reads("((1)", -1004);
        Checks.reads("()", -1001);
        Checks.reads("{}", -1001);
        Checks.reads("(+1)", -1001);
        Checks.reads("(1+)", -1003);
        Checks.reads("(1*)", -1003);
        Checks.reads("1**1", -1002);
        Checks.reads("1+-1", -1002);
        Checks.reads("1(1)", -1001);
        Checks.reads("(1)1", -1003);
        Checks.reads("[1][1]", -1003);
        Checks.reads("1 +1", -1001);
    }

    // ---- kind 2

    private static void noSuchNetwork() {
        Checks.about("kind 2 that of the first [ or < whose figures are no such NETWORK");
        Checks.reads("[5]", -2000);
        Checks.reads("[1]+[5]", -2004);
        Checks.reads("[5]+[6]", -2000);
        Checks.reads("[1]*<0>*[5]", -2004);
        Checks.reads("((<5>+[5]))", -2002);
        Checks.reads("{<1>}+[20]", -2006);
        Checks.reads("1/2*3-[7]", -2006);
    }

    private static void sizesOfNetworks() {
        Checks.about("SIZE 0 .. 4; ROOTED 1 .. 4");
        for (int size = 0; size <= 9; size++) {
            Checks.reads("[" + size + "]", size <= 4 ? 1 : -2000);
            Checks.reads("<" + size + ">", size >= 1 && size <= 4 ? 1 : -2000);
        }
        DensitiesOfNets x = Checks.holding("[0]", "[4]", "<1>", "<4>");
        Checks.holds(x, 0, 0, 1, 1);
        Checks.holds(x, 1, 8, 1, 1);
        Checks.holds(x, 2, 0, 1, 1);
        Checks.holds(x, 3, 9, 1, 1);
    }

    private static void linesOfNetworks() {
        Checks.about("two by two LINES: two unlike POINTS that are there; the same again doesn't matter");
        String[] none = {"[20]", "[2011]", "[40]", "[401122]", "[00]", "[001]", "[010]", "[101]", "[110]", "[200]",
            "[211]", "[202]", "[220]", "[203]", "[303]", "[330]", "[404]", "[440]", "[444]", "[409]", "[20102]",
            "[201010111]", "<10>", "<101>", "<200>", "<202>", "<2010>", "<440>", "[40123344]", "[401122334]",
            "[401122344]"};
        for (String text : none) {
            Checks.reads(text, -2000);
        }
        String[] some = {"[201]", "[210]", "[20110]", "[2010101]", "[201101001]", "[302]", "[320]", "[403]", "[430]",
            "[423]", "[432]", "<201>", "<210>", "<20110>", "<403>", "<430>", "<423>"};
        for (String text : some) {
            Checks.reads(text, 1);
        }
        DensitiesOfNets x = Checks.holding("[201101001]", "[432]", "<430>", "<423>");
        Checks.holds(x, 0, 3, 1, 1);
        Checks.holds(x, 1, 9, 1, 1);
        Checks.holds(x, 2, 10, 1, 1);
        Checks.holds(x, 3, 12, 1, 1);
        DensitiesOfNets y = Checks.holding("[401122330]", "<401020312>", "<312>", "<320>");
        Checks.holds(y, 0, 16, 1, 1);
        Checks.holds(y, 1, 18, 1, 1);
        Checks.holds(y, 2, 6, 1, 1);
        Checks.holds(y, 3, 4, 1, 1);
    }

    private static void kindOneAheadOfTwo() {
        Checks.about("kind 1; else kind 2");
        Checks.reads("[5]x", -1003);
        Checks.reads("[5]+", -1004);
        Checks.reads("[20", -1003);
        Checks.reads("([5]", -1004);
        Checks.reads("[5]+1/0", -1006);
        Checks.reads("<0>*1234", -1007);
    }

    private static void kindTwoAheadOfThree() {
        Checks.about("kind 2; else, as all is worked out, kind 3, 4, 5");
        Checks.reads("[1]+<1>+<0>", -2008);
        Checks.reads("{[1]}+[5]", -2006);
        Checks.reads("[4]*[1]*[5]", -2008);
        Checks.reads(Checks.HALF + "*2+[5]", -2030);
        Checks.reads("[1]+<1>x", -1007);
        Checks.reads("[4]*[4]*", -1008);
    }

    // ---- kinds 3 and 4

    private static void kindThree() {
        Checks.about("kind 3 that of a sign between a SUM of FLAGS and one of ROOTED ones");
        String[] signs = {"+", "-", "*"};
        for (String sign : signs) {
            Checks.reads("[1]" + sign + "<1>", -3003);
            Checks.reads("<1>" + sign + "[1]", -3003);
            Checks.reads("[0]" + sign + "<1>", -3003);
            Checks.reads("<1>" + sign + "{<1>}", -3003);
            Checks.reads("(2*[1])" + sign + "(1+<1>)", -3007);
            Checks.reads("2" + sign + "<1>", 1);
            Checks.reads("<1>" + sign + "2", 1);
            Checks.reads("2" + sign + "[0]", 1);
        }
        Checks.reads("1+[1]-<1>", -3005);
        Checks.reads("(1+[1]*<1>)", -3006);
    }

    private static void kindThreeOfAveraging() {
        Checks.about("kind 3 that of a { before a SUM of FLAGS");
        Checks.reads("{[1]}", -3000);
        Checks.reads("{[0]}", -3000);
        Checks.reads("{1*[0]}", -3000);
        Checks.reads("1+{[1]}", -3002);
        Checks.reads("{{<1>}}", -3000);
        Checks.reads("({[1]})", -3001);
        Checks.reads("{({<1>})}", -3000);
        Checks.reads("{<1>}", 1);
        Checks.reads("{[1]-[1]}", 0);
        Checks.reads("{{<1>-<1>}}", 0);
        Checks.reads("{{7}}", 1);
    }

    private static void kindFour() {
        Checks.about("kind 4 that of a * by which any SIZE would be above 4");
        Checks.reads("[2]*[2]", 6);
        Checks.reads("[3]*[1]", 4);
        Checks.reads("[4]*[0]", 1);
        Checks.reads("[3]*[2]", -4003);
        Checks.reads("[2]*[3]", -4003);
        Checks.reads("[4]*[1]", -4003);
        Checks.reads("[1]*[4]", -4003);
        Checks.reads("[4]*[4]", -4003);
        Checks.reads("[1]*[1]*[1]*[1]", 11);
        Checks.reads("[1]*[1]*[1]*[1]*[1]", -4015);
        Checks.reads("([1]+[3])*[2]", -4009);
        Checks.reads("[2]*([1]+[3])", -4003);
        Checks.about("ROOTED: of both together, less 1");
        Checks.reads("<4>*<1>", 1);
        Checks.reads("<1>*<4>", 1);
        Checks.reads("<3>*<2>", 3);
        Checks.reads("<4>*<2>", -4003);
        Checks.reads("<2>*<4>", -4003);
        Checks.reads("<3>*<3>", -4003);
        Checks.reads("<2>*<2>*<2>", 4);
        Checks.reads("<2>*<2>*<2>*<2>", -4011);
        Checks.reads("(<4>+<1>)*(1+<2>)", -4009);
    }

    private static void kindFourNeedsTerms() {
        Checks.about("(of TERMS that there are)");
        Checks.reads("0*[4]*[4]", 0);
        Checks.reads("[4]*0*[4]", 0);
        Checks.reads("[4]*[4]*0", -4003);
        Checks.reads("([3]-[3])*[4]", 0);
        Checks.reads("[4]*([3]-[3])", 0);
        Checks.reads("([4]+[1]-[4])*[3]", 4);
        Checks.reads("[3]*([4]+[1]-[4])", 4);
        Checks.reads("(<4>-<4>+<2>)*<3>", 3);
        Checks.reads("5*[4]", 1);
        Checks.reads("[4]*5", 1);
        Checks.reads("5*<4>", 1);
    }

    private static void orderOfFaults() {
        Checks.about("from the left on: ( ) and { } as they are come to, * as soon as the ONE behind it, "
                + "+ and - as soon as the PRODUCT behind it is");
        Checks.reads("[1]+<1>+[4]*[1]", -3003);
        Checks.reads("[4]*[1]+[1]+<1>", -4003);
        Checks.reads("[1]+<1>*[1]", -3007);
        Checks.reads("[1]+<4>*<2>", -4007);
        Checks.reads("[1]+<1>*2*<1>", -3003);
        Checks.reads("[1]+<1>*2*[1]", -3009);
        Checks.reads("[1]*([1]+<1>)", -3008);
        Checks.reads("[4]*[1]*([1]+<1>)", -4003);
        Checks.reads("[4]*([1]+<1>)", -3008);
        Checks.reads("[1]+({[1]}+<1>)", -3005);
        Checks.reads("[1]+(<1>+{[1]})", -3009);
        Checks.reads("{[1]+<1>}", -3004);
        Checks.reads("{[1]*[4]}", -4004);
        Checks.reads("<1>+{<4>*<2>}", -4008);
        Checks.reads("[1]*{<1>}*<1>", -3009);
        Checks.reads("1-2-[1]-<1>-[5]", -2012);
        Checks.reads("1-2-[1]-<1>-[4]", -3007);
        Checks.reads("([1]+(2*<1>))", -3004);
        Checks.reads("([1])+(<1>*<1>)", -3005);
        Checks.reads("512*512*512*512*512*512*([1]+<1>)*512", -3028);
        Checks.reads("512*512*512*512*512*512*512*([1]+<1>)", -5023);
    }

    // ---- neither kind

    private static void ofNeitherKind() {
        Checks.about("a fraction that is read, what comes of such ones alone, and a SUM without TERMS are of "
                + "neither kind till they meet one");
        DensitiesOfNets x = Checks.holding("2+[1]", "2+<2>", "(1+2*3)*<1>", "{5}*{<2>}");
        Checks.holds(x, 0, 0, 2, 1, 1, 1, 1);
        Checks.holds(x, 1, 0, 2, 1, 1, 1, 1);
        Checks.holds(x, 2, 0, 7, 1);
        Checks.due("ROOTED", x.sum(2, 1), 1);
        Checks.holds(x, 3, 2, 5, 1);
        x = Checks.holding("([1]-[1])+<1>", "(<1>-<1>)*[1]+[2]", "{[1]-[1]}+<2>", "{<1>-<1>}+[2]");
        Checks.holds(x, 0, 0, 1, 1);
        Checks.due("ROOTED", x.sum(0, 1), 1);
        Checks.holds(x, 1, 2, 1, 1);
        Checks.due("of FLAGS", x.sum(1, 1), 0);
        Checks.holds(x, 2, 1, 1, 1);
        Checks.due("ROOTED", x.sum(2, 1), 1);
        Checks.holds(x, 3, 2, 1, 1);
        x = Checks.holding("5-5+<1>", "0*[4]+<1>", "3+([2]-[2])+<1>", "3-([1]-[1])-<2>");
        for (int store = 0; store < 4; store++) {
            Checks.due("ROOTED " + store, x.sum(store, 1), 1);
        }
        Checks.holds(x, 2, 0, 4, 1);
        Checks.holds(x, 3, 0, 3, 1, 1, -1, 1);
        Checks.about("what has met one is of its kind");
        Checks.reads("2+[1]-[1]+<1>", -3009);
        Checks.reads("2*[0]+<1>", -3005);
        Checks.reads("2+<1>-<1>+[1]", -3009);
        Checks.reads("2+<1>-<1>-2+[1]", 1);
        Checks.reads("{5+<2>-<2>}", 1);
        Checks.reads("{5+[2]-[2]}", -3000);
    }

    private static void atLastFlags() {
        Checks.about("at last so many times FLAG 0");
        DensitiesOfNets x = Checks.holding("5", "{5}", "5-5", "<1>-<1>");
        Checks.holds(x, 0, 0, 5, 1);
        Checks.due("average of FLAG 0", x.average(0), Checks.BAD);
        Checks.due("average of FLAG 0", x.average(1), Checks.BAD);
        Checks.due("average without TERMS", x.average(2), 0);
        Checks.due("value", x.value(0, 0), 5);
        Checks.due("value without TERMS", x.value(3, 0), 0);
        x = Checks.holding("5", "<1>", "5-5", "[1]");
        Checks.due("FLAG 0 and ROOTED ones", x.makes(0, 1, 0, 0), Checks.BAD);
        Checks.due("no TERMS and ROOTED ones", x.makes(2, 1, 0, 0), 1);
        Checks.due("no TERMS and FLAGS", x.makes(2, 3, 0, 0), 1);
    }

    private static void orderOfSigns() {
        Checks.about("* ahead of + and -, these from the left");
        DensitiesOfNets x = Checks.holding("7-2-1", "7-2*3+1", "2*3-4/5*5", "9-(2-1)*3");
        Checks.holds(x, 0, 0, 4, 1);
        Checks.holds(x, 1, 0, 2, 1);
        Checks.holds(x, 2, 0, 2, 1);
        Checks.holds(x, 3, 0, 6, 1);
        x = Checks.holding("1-(2-(3-(4)))", "2*(3+4*(5+6*(7)))", "(1+2)*(3+4)*(5-6)", "1/2*(1/3-1/2)");
        Checks.holds(x, 0, 0, -2, 1);
        Checks.holds(x, 1, 0, 382, 1);
        Checks.holds(x, 2, 0, -21, 1);
        Checks.holds(x, 3, 0, -1, 12);
    }

    private static void termsOfRead() {
        Checks.about("read: how many TERMS");
        Checks.reads("0", 0);
        Checks.reads("[1]-[1]", 0);
        Checks.reads("[1]+[1]", 1);
        Checks.reads("[1]*[1]*[1]*[1]", 11);
        Checks.reads("(1+[1]+[2]+[201])*(1+[1]+[2]+[201])", 19);
        Checks.reads("(1+<2>+<201>)*(1+<2>+<201>)*(1+<2>+<201>)", 29);
        Checks.reads("1+[1]*0", 1);
    }

    private static void nothingIsLeftOver() {
        Checks.about("what one TEXT told doesn't come to the next one");
        String[] before = {"1+[5]", "{<1>}", "1+2*3", "[1]+<1>", "(((", "[4]*[1]", "1-(2-{3", "<0>", "1/0", "1*",
            "{[1]}", "[1]*[1]*[1]*[1]", Checks.GREATEST + "+1"};
        String[] then = {"7", "[1]", "<201>", "2+[1]", "2*<1>", "{<1>}", "(3)", "1-1"};
        int[] terms = {1, 1, 1, 2, 1, 1, 1, 0};
        for (String text : before) {
            DensitiesOfNets x = Checks.fresh();
            for (int i = 0; i < then.length; i++) {
                Checks.read(x, 0, text);
                Checks.due("read of " + then[i] + " behind " + text, Checks.read(x, 1, then[i]), terms[i]);
                Checks.isAs(then[i] + " behind " + text, held(x), held(Checks.holding(null, then[i])));
                x = Checks.fresh();
            }
        }
    }

    /** STORE 1 alone, on THE TAPE nothing. */
    private static DensitiesOfNets held(DensitiesOfNets x) {
        x.clear(0);
        return x;
    }
}
