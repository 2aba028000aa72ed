/** Promises 2 to 7: which FLAGS and ROOTED ones there are, and the edges of what is asked of them. */
public final class FlagBoundsTest {
    private static final int FLAGS = 19;
    private static final int ROOTED = 29;
    private static final int[] FLAGS_OF_SIZE = {1, 1, 2, 4, 11};
    private static final int[] ROOTED_OF_SIZE = {0, 1, 2, 6, 20};
    private static final int[] FLAG_SIZES = sizes(FLAGS_OF_SIZE, FLAGS);
    private static final int[] ROOTED_SIZES = sizes(ROOTED_OF_SIZE, ROOTED);

    public static void main(String[] args) {
        flagNumbers();
        flagEdges();
        flagsAreUnlike();
        renamings();
        otherLines();
        rootedNumbers();
        rootedEdges();
        rootsOfFlags();
        alikeNumbers();
        alikeEachCode();
        alikeTwoAtOnce();
        insideNumbers();
        insidePoints();
        jointNumbers();
        jointPoints();
        jointRootedNumbers();
        jointRootedPoints();
        allTogetherAreOne();
        fractionsAreInLowestTerms();
        Checks.end();
    }

    private static int[] sizes(int[] ofSize, int many) {
        int[] sizes = new int[many];
        int next = 0;
        for (int size = 0; size < ofSize.length; size++) {
            for (int i = 0; i < ofSize[size]; i++) {
                sizes[next] = size;
                next++;
            }
        }
        return sizes;
    }

    // ---- flag

    private static void flagNumbers() {
        Checks.about("FLAGS are numbered 0 to 18, what is 0 to 4");
        DensitiesOfNets x = Checks.fresh();
        for (int what = 0; what <= 4; what++) {
            int asked = what;
            Checks.range("flag(.., " + what + ")", 0, FLAGS - 1, Checks.NONE, flag -> x.flag(flag, asked));
        }
        Checks.range("flag(0, ..)", 0, 4, Checks.NONE, what -> x.flag(0, what));
        Checks.range("flag(18, ..)", 0, 4, Checks.NONE, what -> x.flag(18, what));
        Checks.due("flag(19, 5)", x.flag(19, 5), Checks.NONE);
        Checks.due("flag(-1, -1)", x.flag(-1, -1), Checks.NONE);
    }

    private static void flagEdges() {
        Checks.about("FLAG 0 has no POINTS, FLAG 1 one, FLAG 2 two without a LINE, FLAG 3 two with one");
        int[][] due = {{0, 0, 0, 1, 0}, {1, 0, 0, 1, 1}, {2, 0, 0, 2, 3}, {2, 1, 1, 2, 2}};
        DensitiesOfNets x = Checks.fresh();
        for (int flag = 0; flag < due.length; flag++) {
            for (int what = 0; what <= 4; what++) {
                Checks.due("flag(" + flag + ", " + what + ")", x.flag(flag, what), due[flag][what]);
            }
        }
        Checks.about("the first and the last of SIZE 3 and 4");
        int[][] more = {{4, 3, 0, 0, 6, 7}, {7, 3, 7, 3, 6, 4}, {8, 4, 0, 0, 24, 18}, {18, 4, 63, 6, 24, 8}};
        for (int[] row : more) {
            for (int what = 0; what <= 4; what++) {
                Checks.due("flag(" + row[0] + ", " + what + ")", x.flag(row[0], what), row[what + 1]);
            }
        }
    }

    private static void flagsAreUnlike() {
        Checks.about("of less SIZE first, of one SIZE by the least CODE");
        DensitiesOfNets x = Checks.fresh();
        int[] many = new int[5];
        for (int flag = 0; flag < FLAGS; flag++) {
            int size = x.flag(flag, 0);
            many[size]++;
            Checks.due("the least CODE of FLAG " + flag, x.flag(flag, 1), leastCode(size, x.flag(flag, 1), 0));
            boolean isFirst = flag == 0 || x.flag(flag - 1, 0) < size;
            Checks.must("FLAG " + flag + " is behind the one before it",
                    isFirst ? x.flag(flag, 1) == 0
                            : x.flag(flag - 1, 0) == size && x.flag(flag - 1, 1) < x.flag(flag, 1));
        }
        for (int size = 0; size <= 4; size++) {
            Checks.due("FLAGS of SIZE " + size, many[size], FLAGS_OF_SIZE[size]);
        }
    }

    private static void renamings() {
        Checks.about("in how many ways its POINTS can be renamed so that its CODE stays");
        DensitiesOfNets x = Checks.fresh();
        int[] ways = {1, 1, 2, 6, 24};
        int[] codes = new int[5];
        for (int flag = 0; flag < FLAGS; flag++) {
            int size = x.flag(flag, 0);
            // what can't be told from one another by renaming makes up the rest
            codes[size] += ways[size] / x.flag(flag, 3);
            Checks.due("LINES of FLAG " + flag, x.flag(flag, 2), Integer.bitCount(x.flag(flag, 1)));
        }
        for (int size = 0; size <= 4; size++) {
            Checks.due("CODES of SIZE " + size, codes[size], 1 << size * (size - 1) / 2);
        }
    }

    private static void otherLines() {
        Checks.about("the FLAG with just the other LINES");
        DensitiesOfNets x = Checks.fresh();
        for (int flag = 0; flag < FLAGS; flag++) {
            int other = x.flag(flag, 4);
            int size = x.flag(flag, 0);
            Checks.due("SIZE of the other of " + flag, x.flag(other, 0), size);
            Checks.due("LINES of both of " + flag, x.flag(flag, 2) + x.flag(other, 2), size * (size - 1) / 2);
            Checks.due("the other of the other of " + flag, x.flag(other, 4), flag);
        }
    }

    // ---- rooted

    private static void rootedNumbers() {
        Checks.about("ROOTED ones are numbered 0 to 28, what is 0 to 4");
        DensitiesOfNets x = Checks.fresh();
        for (int what = 0; what <= 4; what++) {
            int asked = what;
            Checks.range("rooted(.., " + what + ")", 0, ROOTED - 1, Checks.NONE, rooted -> x.rooted(rooted, asked));
        }
        Checks.range("rooted(0, ..)", 0, 4, Checks.NONE, what -> x.rooted(0, what));
        Checks.range("rooted(28, ..)", 0, 4, Checks.NONE, what -> x.rooted(28, what));
        Checks.due("rooted(29, 5)", x.rooted(29, 5), Checks.NONE);
    }

    private static void rootedEdges() {
        Checks.about("the first and the last ROOTED one of each SIZE");
        int[][] due = {{0, 1, 0, 0, 1, 1}, {1, 2, 0, 0, 2, 2}, {2, 2, 1, 1, 3, 2}, {3, 3, 0, 0, 4, 3},
            {8, 3, 7, 2, 7, 3}, {9, 4, 0, 0, 8, 4}, {28, 4, 63, 3, 18, 4}};
        DensitiesOfNets x = Checks.fresh();
        for (int[] row : due) {
            for (int what = 0; what <= 4; what++) {
                Checks.due("rooted(" + row[0] + ", " + what + ")", x.rooted(row[0], what), row[what + 1]);
            }
        }
        int[] many = new int[5];
        for (int rooted = 0; rooted < ROOTED; rooted++) {
            int size = x.rooted(rooted, 0);
            many[size]++;
            Checks.due("the least CODE of ROOTED " + rooted, x.rooted(rooted, 1),
                    leastCode(size, x.rooted(rooted, 1), 1));
            // LINES of POINT 0 are told by the bits 0, 1 and 3
            Checks.due("LINES at the root of " + rooted, x.rooted(rooted, 2),
                    Integer.bitCount(x.rooted(rooted, 1) & 11));
            boolean isFirst = rooted == 0 || x.rooted(rooted - 1, 0) < size;
            Checks.must("ROOTED " + rooted + " is behind the one before it",
                    isFirst ? x.rooted(rooted, 1) == 0
                            : x.rooted(rooted - 1, 0) == size && x.rooted(rooted - 1, 1) < x.rooted(rooted, 1));
        }
        for (int size = 0; size <= 4; size++) {
            Checks.due("ROOTED ones of SIZE " + size, many[size], ROOTED_OF_SIZE[size]);
        }
    }

    private static void rootsOfFlags() {
        Checks.about("how many POINTS of that make it so as root");
        DensitiesOfNets x = Checks.fresh();
        int[] ways = new int[FLAGS];
        for (int rooted = 0; rooted < ROOTED; rooted++) {
            int flag = x.rooted(rooted, 3);
            Checks.due("the FLAG of ROOTED " + rooted, flag, x.alike(0, x.rooted(rooted, 0), x.rooted(rooted, 1)));
            Checks.must("ROOTED " + rooted + " has a way", x.rooted(rooted, 4) > 0);
            ways[flag] += x.rooted(rooted, 4);
        }
        for (int flag = 1; flag < FLAGS; flag++) {
            Checks.due("the roots of FLAG " + flag, ways[flag], x.flag(flag, 0));
        }
        Checks.due("the roots of FLAG 0", ways[0], 0);
    }

    // ---- alike

    private static void alikeNumbers() {
        Checks.about("is 0 or 1, SIZES 0 to 4 (ROOTED 1 to 4), CODES of just the LINES that a SIZE has");
        DensitiesOfNets x = Checks.fresh();
        Checks.range("alike(.., 2, 1)", 0, 1, Checks.NONE, is -> x.alike(is, 2, 1));
        Checks.range("alike(0, .., 0)", 0, 4, Checks.NONE, size -> x.alike(0, size, 0));
        Checks.range("alike(1, .., 0)", 1, 4, Checks.NONE, size -> x.alike(1, size, 0));
        int[] last = {0, 0, 1, 7, 63};
        for (int size = 0; size <= 4; size++) {
            int asked = size;
            Checks.range("alike(0, " + size + ", ..)", 0, last[size], Checks.BAD, code -> x.alike(0, asked, code));
            if (size > 0) {
                Checks.range("alike(1, " + size + ", ..)", 0, last[size], Checks.BAD, code -> x.alike(1, asked, code));
            }
        }
    }

    private static void alikeEachCode() {
        Checks.about("ALIKE: renamed (but for the root) they have the same CODE");
        DensitiesOfNets x = Checks.fresh();
        for (int is = 0; is <= 1; is++) {
            for (int size = is; size <= 4; size++) {
                for (int code = 0; code < 1 << size * (size - 1) / 2; code++) {
                    int number = x.alike(is, size, code);
                    int hasSize = is == 0 ? x.flag(number, 0) : x.rooted(number, 0);
                    int hasCode = is == 0 ? x.flag(number, 1) : x.rooted(number, 1);
                    String call = "alike(" + is + ", " + size + ", " + code + ")";
                    Checks.due("SIZE of " + call, hasSize, size);
                    Checks.due("CODE of " + call, hasCode, leastCode(size, code, is));
                }
            }
        }
    }

    private static void alikeTwoAtOnce() {
        Checks.about("alike: NONE: is, size; BAD: code");
        DensitiesOfNets x = Checks.fresh();
        Checks.due("alike(2, 2, 2)", x.alike(2, 2, 2), Checks.NONE);
        Checks.due("alike(-1, 2, -1)", x.alike(-1, 2, -1), Checks.NONE);
        Checks.due("alike(0, 5, -1)", x.alike(0, 5, -1), Checks.NONE);
        Checks.due("alike(0, -1, 1)", x.alike(0, -1, 1), Checks.NONE);
        Checks.due("alike(1, 0, 1)", x.alike(1, 0, 1), Checks.NONE);
        Checks.due("alike(2, 5, 64)", x.alike(2, 5, 64), Checks.NONE);
    }

    /** POINTS below a fixed one keep their names. */
    private static int leastCode(int size, int code, int fixed) {
        int[] names = new int[size];
        for (int point = 0; point < size; point++) {
            names[point] = point;
        }
        return leastFrom(size, code, names, Math.min(fixed, size));
    }

    private static int leastFrom(int size, int code, int[] names, int at) {
        if (at >= size) {
            int renamed = 0;
            for (int j = 1; j < size; j++) {
                for (int i = 0; i < j; i++) {
                    if ((code >> j * (j - 1) / 2 + i & 1) != 0) {
                        int high = Math.max(names[i], names[j]);
                        renamed += 1 << high * (high - 1) / 2 + Math.min(names[i], names[j]);
                    }
                }
            }
            return renamed;
        }
        int least = Integer.MAX_VALUE;
        for (int other = at; other < size; other++) {
            swap(names, at, other);
            least = Math.min(least, leastFrom(size, code, names, at + 1));
            swap(names, at, other);
        }
        return least;
    }

    private static void swap(int[] names, int one, int other) {
        int name = names[one];
        names[one] = names[other];
        names[other] = name;
    }

    // ---- inside, joint, jointRooted

    private static void insideNumbers() {
        Checks.about("inside: NO: either, part");
        DensitiesOfNets x = Checks.fresh();
        Checks.range("inside(.., 18, 0)", 0, FLAGS - 1, Checks.NO, flag -> x.inside(flag, 18, 0));
        Checks.range("inside(0, .., 0)", 0, FLAGS - 1, Checks.NO, in -> x.inside(0, in, 0));
        Checks.range("inside(3, 6, ..)", 0, 1, Checks.NO, part -> x.inside(3, 6, part));
        Checks.range("inside(0, 0, ..)", 0, 1, Checks.NO, part -> x.inside(0, 0, part));
    }

    private static void insidePoints() {
        Checks.about("inside: NO: that has fewer POINTS");
        DensitiesOfNets x = Checks.fresh();
        for (int flag = 0; flag < FLAGS; flag++) {
            for (int in = 0; in < FLAGS; in++) {
                boolean isFewer = FLAG_SIZES[in] < FLAG_SIZES[flag];
                Checks.must("inside(" + flag + ", " + in + ", 1)", x.inside(flag, in, 1) == Checks.NO == isFewer);
            }
        }
        Checks.about("inside, just as many POINTS: that FLAG alone");
        for (int flag = 8; flag < FLAGS; flag++) {
            Checks.fraction("inside(" + flag + ", 13)", x.inside(flag, 13, 0), x.inside(flag, 13, 1),
                    flag == 13 ? 1 : 0, 1);
        }
        Checks.fraction("inside(0, 18)", x.inside(0, 18, 0), x.inside(0, 18, 1), 1, 1);
        Checks.fraction("inside(1, 18)", x.inside(1, 18, 0), x.inside(1, 18, 1), 1, 1);
    }

    private static void jointNumbers() {
        Checks.about("joint: NO: any, part");
        DensitiesOfNets x = Checks.fresh();
        Checks.range("joint(.., 0, 18, 0)", 0, FLAGS - 1, Checks.NO, flag -> x.joint(flag, 0, 18, 0));
        Checks.range("joint(0, .., 18, 0)", 0, FLAGS - 1, Checks.NO, other -> x.joint(0, other, 18, 0));
        Checks.range("joint(0, 0, .., 0)", 0, FLAGS - 1, Checks.NO, in -> x.joint(0, 0, in, 0));
        Checks.range("joint(3, 3, 18, ..)", 0, 1, Checks.NO, part -> x.joint(3, 3, 18, part));
    }

    private static void jointPoints() {
        Checks.about("joint: NO: that has fewer POINTS than both together");
        for (int flag = 0; flag < FLAGS; flag++) {
            DensitiesOfNets y = Checks.fresh();
            for (int other = 0; other < FLAGS; other++) {
                for (int in = 0; in < FLAGS; in++) {
                    boolean isFewer = FLAG_SIZES[in] < FLAG_SIZES[flag] + FLAG_SIZES[other];
                    Checks.must("joint(" + flag + ", " + other + ", " + in + ", 1)",
                            y.joint(flag, other, in, 1) == Checks.NO == isFewer);
                }
            }
        }
        DensitiesOfNets x = Checks.fresh();
        Checks.fraction("joint(3, 2, 9)", x.joint(3, 2, 9, 0), x.joint(3, 2, 9, 1), 1, 6);
        Checks.fraction("joint(2, 3, 9)", x.joint(2, 3, 9, 0), x.joint(2, 3, 9, 1), 1, 6);
        Checks.fraction("joint(7, 1, 11)", x.joint(7, 1, 11, 0), x.joint(7, 1, 11, 1), 1, 4);
        Checks.fraction("joint(1, 7, 12)", x.joint(1, 7, 12, 0), x.joint(1, 7, 12, 1), 0, 1);
        Checks.fraction("joint(1, 6, 12)", x.joint(1, 6, 12, 0), x.joint(1, 6, 12, 1), 3, 4);
        Checks.fraction("joint(18, 0, 18)", x.joint(18, 0, 18, 0), x.joint(18, 0, 18, 1), 1, 1);
    }

    private static void jointRootedNumbers() {
        Checks.about("jointRooted: NO: any, part");
        DensitiesOfNets x = Checks.fresh();
        Checks.range("jointRooted(.., 0, 28, 0)", 0, ROOTED - 1, Checks.NO, rooted -> x.jointRooted(rooted, 0, 28, 0));
        Checks.range("jointRooted(0, .., 28, 0)", 0, ROOTED - 1, Checks.NO, other -> x.jointRooted(0, other, 28, 0));
        Checks.range("jointRooted(0, 0, .., 0)", 0, ROOTED - 1, Checks.NO, in -> x.jointRooted(0, 0, in, 0));
        Checks.range("jointRooted(2, 2, 8, ..)", 0, 1, Checks.NO, part -> x.jointRooted(2, 2, 8, part));
    }

    private static void jointRootedPoints() {
        Checks.about("jointRooted: NO: that has fewer POINTS than both together, less 1");
        for (int rooted = 0; rooted < ROOTED; rooted++) {
            for (int other = 0; other < ROOTED; other++) {
                DensitiesOfNets y = Checks.fresh();
                for (int in = 0; in < ROOTED; in++) {
                    boolean isFewer = ROOTED_SIZES[in] < ROOTED_SIZES[rooted] + ROOTED_SIZES[other] - 1;
                    Checks.must("jointRooted(" + rooted + ", " + other + ", " + in + ", 1)",
                            y.jointRooted(rooted, other, in, 1) == Checks.NO == isFewer);
                }
            }
        }
        DensitiesOfNets x = Checks.fresh();
        Checks.about("of ROOTED 0 and one: INSIDE");
        Checks.fraction("jointRooted(0, 1, 7)", x.jointRooted(0, 1, 7, 0), x.jointRooted(0, 1, 7, 1), 1, 2);
        Checks.fraction("jointRooted(1, 0, 7)", x.jointRooted(1, 0, 7, 0), x.jointRooted(1, 0, 7, 1), 1, 2);
        Checks.fraction("jointRooted(0, 28, 28)", x.jointRooted(0, 28, 28, 0), x.jointRooted(0, 28, 28, 1), 1, 1);
        Checks.fraction("jointRooted(28, 0, 27)", x.jointRooted(28, 0, 27, 0), x.jointRooted(28, 0, 27, 1), 0, 1);
    }

    /** What all FLAGS of a SIZE have of the sets that there are is all of these. */
    private static void allTogetherAreOne() {
        Checks.about("of all sets: INSIDES of all FLAGS of a SIZE are 1, and so are JOINTS of all pairs");
        int[] firsts = {0, 1, 2, 4, 8, 19};
        for (int in = 8; in < FLAGS; in++) {
            DensitiesOfNets x = Checks.fresh();
            for (int size = 0; size <= 4; size++) {
                long all = 0;
                for (int flag = firsts[size]; flag < firsts[size + 1]; flag++) {
                    all += 12 * x.inside(flag, in, 0) / x.inside(flag, in, 1);
                }
                Checks.due("INSIDES of SIZE " + size + " in " + in, all, 12);
            }
            for (int size = 0; size <= 4; size++) {
                long all = 0;
                DensitiesOfNets y = Checks.fresh();
                for (int flag = firsts[size]; flag < firsts[size + 1]; flag++) {
                    for (int other = firsts[4 - size]; other < firsts[5 - size]; other++) {
                        all += 12 * y.joint(flag, other, in, 0) / y.joint(flag, other, in, 1);
                    }
                }
                Checks.due("JOINTS of SIZES " + size + " and " + (4 - size) + " in " + in, all, 12);
            }
        }
        int[] rootedFirsts = {0, 0, 1, 3, 9, 29};
        for (int in = 9; in < ROOTED; in++) {
            for (int size = 1; size <= 4; size++) {
                long all = 0;
                DensitiesOfNets x = Checks.fresh();
                for (int rooted = rootedFirsts[size]; rooted < rootedFirsts[size + 1]; rooted++) {
                    for (int other = rootedFirsts[5 - size]; other < rootedFirsts[6 - size]; other++) {
                        all += 12 * x.jointRooted(rooted, other, in, 0) / x.jointRooted(rooted, other, in, 1);
                    }
                }
                Checks.due("JOINTS of SIZES " + size + " and " + (5 - size) + " in ROOTED " + in, all, 12);
            }
        }
    }

    private static void fractionsAreInLowestTerms() {
        Checks.about("fractions are in lowest terms, 0 is 0 by 1");
        DensitiesOfNets x = Checks.fresh();
        // 3 of 6 sets, 4 of 6, 2 of 4, 0 of 6, 6 of 6, 4 of 6 pairs
        Checks.fraction("inside(3, 11)", x.inside(3, 11, 0), x.inside(3, 11, 1), 1, 2);
        Checks.fraction("inside(3, 16)", x.inside(3, 16, 0), x.inside(3, 16, 1), 2, 3);
        Checks.fraction("inside(6, 17)", x.inside(6, 17, 0), x.inside(6, 17, 1), 1, 2);
        Checks.fraction("inside(3, 8)", x.inside(3, 8, 0), x.inside(3, 8, 1), 0, 1);
        Checks.fraction("inside(3, 18)", x.inside(3, 18, 0), x.inside(3, 18, 1), 1, 1);
        Checks.fraction("joint(3, 3, 16)", x.joint(3, 3, 16, 0), x.joint(3, 3, 16, 1), 2, 3);
        Checks.fraction("jointRooted(2, 2, 4)", x.jointRooted(2, 2, 4, 0), x.jointRooted(2, 2, 4, 1), 0, 1);
        Checks.fraction("jointRooted(2, 0, 28)", x.jointRooted(2, 0, 28, 0), x.jointRooted(2, 0, 28, 1), 1, 1);
    }
}
