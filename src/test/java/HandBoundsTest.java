/** Promises 1 and 8 to 16: the edges of THE NETWORK in hand, from no POINTS to 8, and of what is asked of it. */
public final class HandBoundsTest {
    private static final int[] FIRSTS = {0, 1, 2, 4, 8, 19};
    private static final int[] ROOTED_FIRSTS = {0, 0, 1, 3, 9, 29};

    public static void main(String[] args) {
        newObject();
        pointsNumbers();
        pointsTakeAllLines();
        lineWithFewPoints();
        lineNumbers();
        lineTwoAtOnce();
        lineIsWhatItWas();
        toldNumbers();
        toldOfFew();
        toldOfEight();
        besideNumbers();
        shareNumbers();
        sharePoints();
        shareOfEight();
        shareAtNumbers();
        shareAtPoints();
        shareAtOfEight();
        mapsNumbers();
        mapsOfFew();
        mapsOfEight();
        rankNumbers();
        rankPoints();
        rankOfLikeShares();
        foundNumbers();
        foundPoints();
        foundOrder();
        foundAll();
        Checks.end();
    }

    private static void newObject() {
        Checks.about("a new object has no POINTS in hand, no SUM, no byte, no IMAGE");
        DensitiesOfNets x = Checks.fresh();
        for (int what = 0; what < 4; what++) {
            Checks.due("told(" + what + ")", x.told(what), 0);
        }
        for (int what = 0; what < 3; what++) {
            Checks.due("count(" + what + ")", x.count(what), 0);
        }
        for (int store = 0; store < 4; store++) {
            Checks.holdsNothing(x, store);
        }
        Checks.due("back()", x.back(), Checks.STATE);
        Checks.due("points(0)", x.points(0), 0);
        DensitiesOfNets used = Checks.holding("1+[1]");
        used.points(3);
        used.image();
        Checks.due("told(0) of a second object", Checks.fresh().told(0), 0);
        Checks.due("back() of a second object", Checks.fresh().back(), Checks.STATE);
    }

    // ---- points, line

    private static void pointsNumbers() {
        Checks.about("points: 0 .. 8; BAD");
        DensitiesOfNets x = Checks.fresh();
        Checks.range("points(..)", 0, 8, Checks.BAD, x::points);
        Checks.due("told(0) behind refused ones", x.told(0), 8);
        int had = 8;
        for (int n = 0; n <= 8; n++) {
            Checks.due("points(" + n + ")", x.points(n), had);
            Checks.due("told(0)", x.told(0), n);
            had = n;
        }
        for (int n = 8; n >= 0; n--) {
            Checks.due("points(" + n + ")", x.points(n), had);
            had = n;
        }
    }

    private static void pointsTakeAllLines() {
        Checks.about("points: no LINES");
        int[] all = {0, 1, 7, 8};
        for (int n : all) {
            DensitiesOfNets x = Checks.fullNet(8);
            Checks.due("points(" + n + ")", x.points(n), 8);
            Checks.due("told(1)", x.told(1), 0);
            Checks.due("points(8)", x.points(8), n);
            Checks.due("told(1): none comes again", x.told(1), 0);
            for (int point = 0; point < 8; point++) {
                Checks.due("beside(" + point + ")", x.beside(point), 0);
            }
        }
        DensitiesOfNets x = Checks.fullNet(8);
        Checks.due("points(9)", x.points(9), Checks.BAD);
        Checks.due("points(-1)", x.points(-1), Checks.BAD);
        Checks.due("a refused one leaves the LINES", x.told(1), 28);
    }

    private static void lineWithFewPoints() {
        Checks.about("line: NONE: either");
        DensitiesOfNets x = Checks.fresh();
        Checks.due("no POINTS: line(0, 0, 1)", x.line(0, 0, 1), Checks.NONE);
        Checks.due("no POINTS: line(0, 1, 1)", x.line(0, 1, 1), Checks.NONE);
        x.points(1);
        Checks.due("one POINT: line(0, 0, 1)", x.line(0, 0, 1), Checks.BAD);
        Checks.due("one POINT: line(0, 1, 1)", x.line(0, 1, 1), Checks.NONE);
        Checks.due("one POINT: line(1, 0, 1)", x.line(1, 0, 1), Checks.NONE);
        x.points(2);
        Checks.due("two POINTS: line(0, 1, 1)", x.line(0, 1, 1), 0);
        Checks.due("two POINTS: line(1, 2, 1)", x.line(1, 2, 1), Checks.NONE);
        Checks.due("two POINTS: told(1)", x.told(1), 1);
    }

    private static void lineNumbers() {
        Checks.about("line: POINTS that are there, is 0 or 1");
        for (int n = 2; n <= 8; n++) {
            int last = n - 1;
            DensitiesOfNets x = Checks.net(n);
            // the other end is neither the first nor the last, where there are three
            int other = n == 2 ? 1 : n - 2;
            if (n > 2) {
                Checks.range(n + " POINTS: line(.., other, 0)", 0, last, Checks.NONE, one -> x.line(one, other, 0));
                Checks.range(n + " POINTS: line(other, .., 0)", 0, last, Checks.NONE, one -> x.line(other, one, 0));
            }
            Checks.range(n + " POINTS: line(0, last, ..)", 0, 1, Checks.BAD, is -> x.line(0, last, is));
            Checks.due("the last is drawn", x.told(1), 1);
        }
    }

    private static void lineTwoAtOnce() {
        Checks.about("line: NONE: either; BAD: is, one and the same");
        DensitiesOfNets x = Checks.net(3);
        Checks.due("line(3, 0, 2)", x.line(3, 0, 2), Checks.NONE);
        Checks.due("line(0, 3, -1)", x.line(0, 3, -1), Checks.NONE);
        Checks.due("line(3, 3, 1)", x.line(3, 3, 1), Checks.NONE);
        Checks.due("line(-1, -1, 2)", x.line(-1, -1, 2), Checks.NONE);
        Checks.due("line(1, 1, 2)", x.line(1, 1, 2), Checks.BAD);
        Checks.due("line(1, 1, 0)", x.line(1, 1, 0), Checks.BAD);
        Checks.due("line(0, 0, 1)", x.line(0, 0, 1), Checks.BAD);
        Checks.due("told(1)", x.told(1), 0);
        Checks.due("beside(0)", x.beside(0), 0);
    }

    private static void lineIsWhatItWas() {
        Checks.about("line becomes is: what it was");
        DensitiesOfNets x = Checks.net(8);
        int[][] ends = {{0, 1}, {0, 7}, {6, 7}, {3, 4}};
        for (int[] end : ends) {
            int a = end[0];
            int b = end[1];
            Checks.due("none is taken away", x.line(a, b, 0), 0);
            Checks.due("one is drawn", x.line(a, b, 1), 0);
            Checks.due("it is drawn again", x.line(a, b, 1), 1);
            Checks.due("from the other end", x.line(b, a, 1), 1);
            Checks.due("beside the one", x.beside(a) >> b & 1, 1);
            Checks.due("beside the other one", x.beside(b) >> a & 1, 1);
            Checks.due("it is taken away from the other end", x.line(b, a, 0), 1);
            Checks.due("no more beside the one", x.beside(a), 0);
            Checks.due("no more beside the other one", x.beside(b), 0);
            Checks.due("it is taken away again", x.line(a, b, 0), 0);
            Checks.due("told(1)", x.told(1), 0);
            Checks.due("it is drawn from the other end", x.line(b, a, 1), 0);
            Checks.due("it is taken away from the one", x.line(a, b, 0), 1);
            Checks.due("no more beside the one", x.beside(a), 0);
            Checks.due("no more beside the other one", x.beside(b), 0);
        }
    }

    // ---- told, beside

    private static void toldNumbers() {
        Checks.about("told: what 0 .. 3; NONE");
        Checks.range("no POINTS: told(..)", 0, 3, Checks.NONE, Checks.fresh()::told);
        Checks.range("8 POINTS: told(..)", 0, 3, Checks.NONE, Checks.fullNet(8)::told);
    }

    private static void tells(DensitiesOfNets x, String which, int points, int lines, int most, int even) {
        Checks.due(which + ": told(0)", x.told(0), points);
        Checks.due(which + ": told(1)", x.told(1), lines);
        Checks.due(which + ": told(2)", x.told(2), most);
        Checks.due(which + ": told(3)", x.told(3), even);
    }

    private static void toldOfFew() {
        Checks.about("the most LINES at a POINT (0: none), sets of three POINTS with all LINES, or none");
        tells(Checks.net(0), "no POINTS", 0, 0, 0, 0);
        tells(Checks.net(1), "one POINT", 1, 0, 0, 0);
        tells(Checks.net(2), "two POINTS", 2, 0, 0, 0);
        tells(Checks.net(2, 0, 1), "two POINTS, a LINE", 2, 1, 1, 0);
        tells(Checks.net(3), "three POINTS", 3, 0, 0, 1);
        tells(Checks.net(3, 1, 2), "three POINTS, a LINE", 3, 1, 1, 0);
        tells(Checks.net(3, 0, 2, 1, 2), "three POINTS, two LINES", 3, 2, 2, 0);
        tells(Checks.net(3, 0, 1, 0, 2), "three POINTS, two LINES at the first", 3, 2, 2, 0);
        tells(Checks.fullNet(3), "three POINTS, all LINES", 3, 3, 2, 1);
        // 0 1 2 has all, 0 1 3 and 0 2 3 and 1 2 3 have one
        tells(Checks.net(4, 0, 1, 0, 2, 1, 2), "four POINTS", 4, 3, 2, 1);
    }

    private static void toldOfEight() {
        Checks.about("8 POINTS: all LINES, none, all at one POINT");
        tells(Checks.fullNet(8), "all LINES", 8, 28, 7, 56);
        tells(Checks.net(8), "no LINES", 8, 0, 0, 56);
        // sets of three without POINT 7 have none
        tells(Checks.net(8, 7, 0, 7, 1, 7, 2, 7, 3, 7, 4, 7, 5, 7, 6), "all at the last", 8, 7, 7, 35);
        tells(Checks.net(8, 0, 1, 0, 2, 0, 3, 0, 4, 0, 5, 0, 6, 0, 7), "all at the first", 8, 7, 7, 35);
        tells(Checks.net(8, 6, 7), "one LINE between the last", 8, 1, 1, 50);
    }

    private static void besideNumbers() {
        Checks.about("beside: POINTS that are there; NONE");
        Checks.due("no POINTS: beside(0)", Checks.fresh().beside(0), Checks.NONE);
        Checks.due("no POINTS: beside(-1)", Checks.fresh().beside(-1), Checks.NONE);
        for (int n = 1; n <= 8; n++) {
            DensitiesOfNets x = Checks.fullNet(n);
            Checks.range(n + " POINTS: beside(..)", 0, n - 1, Checks.NONE, x::beside);
            for (int point = 0; point < n; point++) {
                Checks.due("beside(" + point + ")", x.beside(point), (1 << n) - 1 - (1 << point));
            }
        }
        Checks.due("a POINT that is no more there", besideWhatWent(), Checks.NONE);
    }

    private static int besideWhatWent() {
        DensitiesOfNets x = Checks.fullNet(8);
        x.points(5);
        return x.beside(5);
    }

    // ---- share, shareAt

    private static void shareNumbers() {
        Checks.about("share: NO: flag, part");
        DensitiesOfNets x = Checks.fullNet(4);
        Checks.range("share(.., 0)", 0, 18, Checks.NO, flag -> x.share(flag, 0));
        Checks.range("share(0, ..)", 0, 1, Checks.NO, part -> x.share(0, part));
        Checks.range("share(18, ..)", 0, 1, Checks.NO, part -> x.share(18, part));
        Checks.due("share(19, 2)", x.share(19, 2), Checks.NO);
    }

    private static void sharePoints() {
        Checks.about("share: NO: there are fewer POINTS");
        for (int n = 0; n <= 8; n++) {
            DensitiesOfNets x = Checks.net(n);
            for (int size = 0; size <= 4; size++) {
                // of a network without LINES all sets have the first FLAG of their SIZE
                for (int flag = FIRSTS[size]; flag < FIRSTS[size + 1]; flag++) {
                    boolean isFirst = flag == FIRSTS[size];
                    String call = n + " POINTS: share(" + flag + ")";
                    Checks.due(call, x.share(flag, 0), n < size ? Checks.NO : isFirst ? 1 : 0);
                    Checks.due(call, x.share(flag, 1), n < size ? Checks.NO : 1);
                }
            }
        }
    }

    private static void shareOfEight() {
        Checks.about("SHARE of 8 POINTS, in lowest terms");
        DensitiesOfNets full = Checks.fullNet(8);
        Checks.fraction("share(18)", full.share(18, 0), full.share(18, 1), 1, 1);
        Checks.fraction("share(17)", full.share(17, 0), full.share(17, 1), 0, 1);
        // one LINE: 1 of 28 pairs, 6 of 56 sets of three, 15 of 70 sets of four
        DensitiesOfNets one = Checks.net(8, 6, 7);
        Checks.fraction("share(3)", one.share(3, 0), one.share(3, 1), 1, 28);
        Checks.fraction("share(2)", one.share(2, 0), one.share(2, 1), 27, 28);
        Checks.fraction("share(5)", one.share(5, 0), one.share(5, 1), 3, 28);
        Checks.fraction("share(9)", one.share(9, 0), one.share(9, 1), 3, 14);
        Checks.fraction("share(8)", one.share(8, 0), one.share(8, 1), 11, 14);
        // the set of the last four alone
        DensitiesOfNets last = Checks.net(8, 4, 5, 4, 6, 4, 7, 5, 6, 5, 7, 6, 7);
        Checks.fraction("share(18)", last.share(18, 0), last.share(18, 1), 1, 70);
        Checks.fraction("share(7)", last.share(7, 0), last.share(7, 1), 1, 14);
    }

    private static void shareAtNumbers() {
        Checks.about("shareAt: NO: point, rooted, part");
        DensitiesOfNets x = Checks.fullNet(4);
        Checks.range("shareAt(.., 0, 0)", 0, 3, Checks.NO, point -> x.shareAt(point, 0, 0));
        Checks.range("shareAt(0, .., 0)", 0, 28, Checks.NO, rooted -> x.shareAt(0, rooted, 0));
        Checks.range("shareAt(3, 28, ..)", 0, 1, Checks.NO, part -> x.shareAt(3, 28, part));
        Checks.due("no POINTS: shareAt(0, 0, 0)", Checks.fresh().shareAt(0, 0, 0), Checks.NO);
        Checks.due("shareAt(4, 29, 2)", x.shareAt(4, 29, 2), Checks.NO);
        DensitiesOfNets eight = Checks.net(8);
        Checks.range("8 POINTS: shareAt(.., 9, 1)", 0, 7, Checks.NO, point -> eight.shareAt(point, 9, 1));
    }

    private static void shareAtPoints() {
        Checks.about("shareAt: NO: there are fewer POINTS");
        for (int n = 1; n <= 8; n++) {
            DensitiesOfNets x = Checks.net(n);
            for (int size = 1; size <= 4; size++) {
                for (int rooted = ROOTED_FIRSTS[size]; rooted < ROOTED_FIRSTS[size + 1]; rooted++) {
                    boolean isFirst = rooted == ROOTED_FIRSTS[size];
                    String call = n + " POINTS: shareAt(last, " + rooted + ")";
                    Checks.due(call, x.shareAt(n - 1, rooted, 0), n < size ? Checks.NO : isFirst ? 1 : 0);
                    Checks.due(call, x.shareAt(n - 1, rooted, 1), n < size ? Checks.NO : 1);
                }
            }
        }
    }

    private static void shareAtOfEight() {
        Checks.about("SHARE at the first and the last of 8 POINTS, in lowest terms");
        DensitiesOfNets x = Checks.net(8, 7, 0, 7, 1);
        // at 7: 2 of 7 pairs; 1 of 21 sets of three has both, 10 one; of 35 sets of four 5 have both
        Checks.fraction("at 7: 2", x.shareAt(7, 2, 0), x.shareAt(7, 2, 1), 2, 7);
        Checks.fraction("at 7: 5", x.shareAt(7, 5, 0), x.shareAt(7, 5, 1), 1, 21);
        Checks.fraction("at 7: 4", x.shareAt(7, 4, 0), x.shareAt(7, 4, 1), 10, 21);
        Checks.fraction("at 7: 11", x.shareAt(7, 11, 0), x.shareAt(7, 11, 1), 1, 7);
        // at 0: 1 of 7 pairs; with 7 and 1 a row from its end
        Checks.fraction("at 0: 2", x.shareAt(0, 2, 0), x.shareAt(0, 2, 1), 1, 7);
        Checks.fraction("at 0: 7", x.shareAt(0, 7, 0), x.shareAt(0, 7, 1), 1, 21);
        Checks.fraction("at 0: 5", x.shareAt(0, 5, 0), x.shareAt(0, 5, 1), 0, 1);
        // at 3: the LINES are between others
        Checks.fraction("at 3: 2", x.shareAt(3, 2, 0), x.shareAt(3, 2, 1), 0, 1);
        Checks.fraction("at 3: 6", x.shareAt(3, 6, 0), x.shareAt(3, 6, 1), 2, 21);
        Checks.fraction("at 3: 0", x.shareAt(3, 0, 0), x.shareAt(3, 0, 1), 1, 1);
    }

    // ---- maps

    private static void mapsNumbers() {
        Checks.about("maps: NONE");
        Checks.range("no POINTS: maps(..)", 0, 18, Checks.NONE, Checks.fresh()::maps);
        Checks.range("8 POINTS: maps(..)", 0, 18, Checks.NONE, Checks.fullNet(8)::maps);
    }

    private static void mapsOfFew() {
        Checks.about("MAPS of FLAG 0: 1; there are none to no POINTS, one to one POINT without LINES");
        DensitiesOfNets none = Checks.fresh();
        DensitiesOfNets one = Checks.net(1);
        for (int flag = 0; flag < 19; flag++) {
            boolean hasLines = none.flag(flag, 2) > 0;
            Checks.due("no POINTS: maps(" + flag + ")", none.maps(flag), flag == 0 ? 1 : 0);
            Checks.due("one POINT: maps(" + flag + ")", one.maps(flag), hasLines ? 0 : 1);
        }
        Checks.about("the same to several, too");
        DensitiesOfNets two = Checks.net(2, 0, 1);
        int[][] due = {{3, 2}, {4, 8}, {6, 2}, {7, 0}, {14, 2}, {15, 0}, {16, 2}, {13, 4}, {8, 16}};
        for (int[] row : due) {
            Checks.due("two POINTS: maps(" + row[0] + ")", two.maps(row[0]), row[1]);
        }
    }

    private static void mapsOfEight() {
        Checks.about("MAPS to 8 POINTS");
        DensitiesOfNets full = Checks.fullNet(8);
        int[][] due = {{0, 1}, {1, 8}, {2, 64}, {3, 56}, {4, 512}, {5, 448}, {6, 392}, {7, 336}, {8, 4096},
            {9, 3584}, {12, 2744}, {18, 1680}};
        for (int[] row : due) {
            Checks.due("all LINES: maps(" + row[0] + ")", full.maps(row[0]), row[1]);
        }
        DensitiesOfNets bare = Checks.net(8);
        Checks.due("no LINES: maps(8)", bare.maps(8), 4096);
        Checks.due("no LINES: maps(9)", bare.maps(9), 0);
        // one LINE, to which both ends can go
        Checks.due("one LINE: maps(9)", Checks.net(8, 6, 7).maps(9), 128);
    }

    // ---- rank

    private static void rankNumbers() {
        Checks.about("rank: NONE: size, k");
        DensitiesOfNets x = Checks.net(8);
        Checks.range("rank(.., 0)", 0, 4, Checks.NONE, size -> x.rank(size, 0));
        int[] last = {0, 0, 1, 3, 10};
        for (int size = 0; size <= 4; size++) {
            int asked = size;
            Checks.range("rank(" + size + ", ..)", 0, last[size], Checks.NONE, k -> x.rank(asked, k));
        }
    }

    private static void rankPoints() {
        Checks.about("rank: NONE: size, k; STATE: there are fewer POINTS");
        int[] last = {0, 0, 1, 3, 10};
        for (int size = 0; size <= 4; size++) {
            for (int n = 0; n <= 8; n++) {
                DensitiesOfNets x = Checks.net(n);
                String call = n + " POINTS: rank(" + size;
                Checks.due(call + ", 0)", x.rank(size, 0), n < size ? Checks.STATE : FIRSTS[size]);
                Checks.due(call + ", last)", x.rank(size, last[size]),
                        n < size ? Checks.STATE : FIRSTS[size + 1] - 1);
                Checks.due(call + ", behind the last)", x.rank(size, last[size] + 1), Checks.NONE);
                Checks.due(call + ", -1)", x.rank(size, -1), Checks.NONE);
            }
        }
        Checks.due("no POINTS: rank(5, 0)", Checks.fresh().rank(5, 0), Checks.NONE);
    }

    private static void rankOfLikeShares() {
        Checks.about("those of greater SHARE first, of like ones those of lesser numbers; all have one RANK");
        DensitiesOfNets full = Checks.fullNet(8);
        int[] due = {18, 8, 9, 10, 11, 12, 13, 14, 15, 16, 17};
        for (int k = 0; k < due.length; k++) {
            Checks.due("all LINES: rank(4, " + k + ")", full.rank(4, k), due[k]);
        }
        DensitiesOfNets four = Checks.net(4, 0, 1, 1, 2, 2, 3);
        int[] fourDue = {14, 8, 9, 10, 11, 12, 13, 15, 16, 17, 18};
        for (int k = 0; k < fourDue.length; k++) {
            Checks.due("a row of four: rank(4, " + k + ")", four.rank(4, k), fourDue[k]);
        }
        // a row of four has 3 of 6, 2 of 4 and 2 of 4
        Checks.due("rank(2, 0)", four.rank(2, 0), 2);
        Checks.due("rank(2, 1)", four.rank(2, 1), 3);
        int[] three = {5, 6, 4, 7};
        for (int k = 0; k < 4; k++) {
            Checks.due("rank(3, " + k + ")", four.rank(3, k), three[k]);
        }
    }

    // ---- found

    private static void foundNumbers() {
        Checks.about("found: NONE: size, k below -1; -5: there are not so many");
        DensitiesOfNets x = Checks.net(4, 0, 1);
        Checks.range("found(.., 0)", 0, 4, Checks.NONE, size -> x.found(size, 0));
        Checks.range("found(.., -1)", 0, 4, Checks.NONE, size -> x.found(size, -1));
        Checks.due("found(3, -1)", x.found(3, -1), 2);
        Checks.due("found(3, -2)", x.found(3, -2), Checks.NONE);
        Checks.due("found(3, least)", x.found(3, Integer.MIN_VALUE), Checks.NONE);
        Checks.due("found(3, 0)", x.found(3, 0), 5);
        Checks.due("found(3, 1)", x.found(3, 1), 4);
        Checks.due("found(3, 2)", x.found(3, 2), Checks.LACKING);
        Checks.due("found(3, greatest)", x.found(3, Integer.MAX_VALUE), Checks.LACKING);
        Checks.due("found(5, -2)", x.found(5, -2), Checks.NONE);
    }

    private static void foundPoints() {
        Checks.about("found: NONE ahead of STATE, STATE ahead of -5");
        for (int size = 0; size <= 4; size++) {
            for (int n = 0; n <= 8; n++) {
                DensitiesOfNets x = Checks.net(n);
                boolean isFewer = n < size;
                String call = n + " POINTS: found(" + size;
                Checks.due(call + ", -1)", x.found(size, -1), isFewer ? Checks.STATE : 1);
                Checks.due(call + ", 0)", x.found(size, 0), isFewer ? Checks.STATE : FIRSTS[size]);
                Checks.due(call + ", 1)", x.found(size, 1), isFewer ? Checks.STATE : Checks.LACKING);
                Checks.due(call + ", 99)", x.found(size, 99), isFewer ? Checks.STATE : Checks.LACKING);
                Checks.due(call + ", -2)", x.found(size, -2), Checks.NONE);
            }
        }
        Checks.due("no POINTS: found(5, 0)", Checks.fresh().found(5, 0), Checks.NONE);
        Checks.due("no POINTS: found(-1, 0)", Checks.fresh().found(-1, 0), Checks.NONE);
    }

    private static void foundOrder() {
        Checks.about("sets in the order of their bits as numbers");
        // 0 1 2 and 0 1 3 have no LINE, then come 0 2 3 (one), 1 2 3 (one), 0 1 4 (two)
        DensitiesOfNets x = Checks.net(5, 2, 3, 0, 4, 1, 4);
        int[] due = {4, 5, 6};
        for (int k = 0; k < due.length; k++) {
            Checks.due("found(3, " + k + ")", x.found(3, k), due[k]);
        }
        Checks.due("found(3, 3)", x.found(3, 3), Checks.LACKING);
        Checks.due("found(3, -1)", x.found(3, -1), 3);
        // the only LINE comes with the last set
        DensitiesOfNets last = Checks.net(8, 6, 7);
        Checks.due("found(2, 0)", last.found(2, 0), 2);
        Checks.due("found(2, 1)", last.found(2, 1), 3);
    }

    private static void foundAll() {
        Checks.about("all FLAGS of a SIZE may be FOUND");
        DensitiesOfNets x = Checks.net(8, 0, 1, 0, 2, 1, 2, 2, 3, 4, 5);
        Checks.due("found(3, -1)", x.found(3, -1), 4);
        boolean[] seen = new boolean[19];
        for (int k = 0; k < 4; k++) {
            seen[x.found(3, k)] = true;
        }
        for (int flag = 4; flag < 8; flag++) {
            Checks.must("FLAG " + flag + " is FOUND", seen[flag]);
        }
        Checks.due("found(3, 0)", x.found(3, 0), 7);
        Checks.due("found(3, 4)", x.found(3, 4), Checks.LACKING);
    }
}
