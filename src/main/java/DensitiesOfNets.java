/**
 * Small networks counted inside larger ones, and sums of them as an algebra.
 * The words in capitals (FLAG, ROOTED, JOINT, ..) are those of the document.
 */
public final class DensitiesOfNets {
    public static final int NONE = -1, BAD = -2, STATE = -3, FULL = -4, OVER = -6;
    public static final long NO = Long.MIN_VALUE;

    /** What the document answers as -5: there is not so much. */
    private static final int LACKING = -5;

    private static final int FLAGS = 19;
    private static final int ROOTED = 29;
    private static final int MOST_SIZE = 4;
    private static final int MOST_CODES = 64;
    private static final int MOST_SETS = 16;
    private static final int MOST_POINTS = 8;
    private static final int STORES = 4;
    private static final int MOST_BYTES = 60;
    private static final int MOST_OPEN = 3;
    /** A SUM so far, a PRODUCT so far and a ONE, around all and in each ( or { that is open. */
    private static final int MOST_PILED = 3 * (MOST_OPEN + 1);
    private static final int MOST_DIGITS = 3;
    private static final int MOST_FIGURES = 9;

    /** What a network without a root has for its root. */
    private static final int UNROOTED = -1;

    private static final int PLUS = 0;
    private static final int LESS = 1;
    private static final int TIMES = 2;

    private static final int NEITHER = 0;
    private static final int OF_FLAGS = 1;
    private static final int OF_ROOTED = 2;

    /** Stands for a NUMBER, or a NUMBER / NUMBER, among the signs of a TEXT. */
    private static final int FRACTION_SIGN = '0';

    private final Family flags = new Family(false, FLAGS);
    private final Family roots = new Family(true, ROOTED);
    private final Algebra algebra = new Algebra(flags, roots);
    private final Text tape = new Text(flags, roots);
    private final Reckoner reckoner = new Reckoner(algebra);
    private final Fraction answer = new Fraction();
    private final Sum scratch = new Sum();
    private final Net hand = new Net();
    private final Shelf shelf = new Shelf();
    private final Net keptHand = new Net();
    private final Shelf keptShelf = new Shelf();
    private boolean hasImage = false;

    public DensitiesOfNets() {
    }

    // ---- flags

    public int flag(int flag, int what) {
        if (!flags.has(flag) || what < 0 || what > 4) {
            return NONE;
        }
        switch (what) {
            case 0:
                return flags.sizes[flag];
            case 1:
                return flags.codes[flag];
            case 2:
                return Integer.bitCount(flags.codes[flag]);
            case 3:
                return flags.symmetriesOf(flag);
            default:
                return flags.oppositeOf(flag);
        }
    }

    public int rooted(int rooted, int what) {
        if (!roots.has(rooted) || what < 0 || what > 4) {
            return NONE;
        }
        switch (what) {
            case 0:
                return roots.sizes[rooted];
            case 1:
                return roots.codes[rooted];
            case 2:
                return Integer.bitCount(roots.nets[rooted].rows[0]);
            case 3:
                return algebra.bare[rooted];
            default:
                return algebra.ways[rooted];
        }
    }

    public int alike(int is, int size, int code) {
        if (is < 0 || is > 1) {
            return NONE;
        }
        Family family = is == 1 ? roots : flags;
        if (!family.hasSize(size)) {
            return NONE;
        }
        if (code < 0 || code >= Family.codesOf(size)) {
            return BAD;
        }
        return family.numbers[size][code];
    }

    public long inside(int flag, int in, int part) {
        return jointPart(flags, 0, flag, in, part);
    }

    public long joint(int flag, int other, int in, int part) {
        return jointPart(flags, flag, other, in, part);
    }

    public long jointRooted(int rooted, int other, int in, int part) {
        return jointPart(roots, rooted, other, in, part);
    }

    /** INSIDE is the JOINT with number 0, which is on one set, apart from all others. */
    private long jointPart(Family family, int one, int other, int in, int part) {
        if (!family.has(one) || !family.has(other) || !family.has(in) || !isPart(part)
                || family.sizes[in] < family.sizeOfBoth(one, other)) {
            return NO;
        }
        answer.become(family.jointsIn(one, other, in), family.pairsIn(one, other, in));
        return answer.part(part);
    }

    // ---- the network in hand

    public int points(int n) {
        if (n < 0 || n > MOST_POINTS) {
            return BAD;
        }
        int had = hand.many;
        hand.startWith(n);
        return had;
    }

    public int line(int one, int other, int is) {
        if (!hand.has(one) || !hand.has(other)) {
            return NONE;
        }
        if (is < 0 || is > 1 || one == other) {
            return BAD;
        }
        int was = hand.joins(one, other) ? 1 : 0;
        hand.draw(one, other, is == 1);
        return was;
    }

    public int told(int what) {
        switch (what) {
            case 0:
                return hand.many;
            case 1:
                return hand.lines();
            case 2:
                return hand.mostLines();
            case 3:
                return hand.evenTriples();
            default:
                return NONE;
        }
    }

    public int beside(int point) {
        return hand.has(point) ? hand.rows[point] : NONE;
    }

    public long share(int flag, int part) {
        if (!flags.has(flag) || !isPart(part) || hand.many < flags.sizes[flag]) {
            return NO;
        }
        flags.shareOf(flag, hand, UNROOTED, answer);
        return answer.part(part);
    }

    public long shareAt(int point, int rooted, int part) {
        if (!hand.has(point) || !roots.has(rooted) || !isPart(part) || hand.many < roots.sizes[rooted]) {
            return NO;
        }
        roots.shareOf(rooted, hand, point, answer);
        return answer.part(part);
    }

    public int maps(int flag) {
        return flags.has(flag) ? hand.mapsFrom(flags.nets[flag]) : NONE;
    }

    public int rank(int size, int k) {
        if (!flags.hasSize(size) || k < 0 || k >= flags.manyOf(size)) {
            return NONE;
        }
        if (hand.many < size) {
            return STATE;
        }
        flags.tally(hand, UNROOTED, size);
        return flags.ranked(size, k);
    }

    public int found(int size, int k) {
        if (!flags.hasSize(size) || k < -1) {
            return NONE;
        }
        if (hand.many < size) {
            return STATE;
        }
        flags.tally(hand, UNROOTED, size);
        if (k == -1) {
            return flags.comers;
        }
        return k < flags.comers ? flags.come[k] : LACKING;
    }

    // ---- sums

    public int feed(int sign) {
        if (sign < 0 || sign > 127) {
            return BAD;
        }
        if (tape.size >= MOST_BYTES) {
            return FULL;
        }
        tape.bytes[tape.size] = sign;
        tape.size++;
        return tape.size;
    }

    public int read(int store) {
        if (!isStore(store)) {
            return NONE;
        }
        int fault = tape.takeApart();
        if (fault == 0) {
            fault = reckoner.workOut(tape);
        }
        tape.size = 0;
        if (fault != 0) {
            return fault;
        }
        return shelf.put(store, reckoner.outcome());
    }

    public int clear(int store) {
        if (!isStore(store)) {
            return NONE;
        }
        int had = shelf.sums[store].terms();
        shelf.drop(store);
        return had;
    }

    public int sum(int store, int what) {
        if (!isStore(store) || what < 0 || what > 2) {
            return NONE;
        }
        if (!shelf.holds[store]) {
            return STATE;
        }
        Sum held = shelf.sums[store];
        if (what == 0) {
            return held.terms();
        }
        if (what == 1) {
            return held.kind == OF_ROOTED ? 1 : 0;
        }
        return held.terms() == 0 ? LACKING : algebra.greatestSize(held, held.kind);
    }

    /** A negative number is none of any SUM, so it is told ahead of a STORE that holds nothing. */
    public int term(int store, int i) {
        if (!isStore(store) || i < 0) {
            return NONE;
        }
        return shelf.holds[store] ? shelf.sums[store].numberOfTerm(i) : STATE;
    }

    public long coefficient(int store, int i, int part) {
        if (!isStore(store) || !isPart(part) || !shelf.holds[store]) {
            return NO;
        }
        Sum held = shelf.sums[store];
        int number = held.numberOfTerm(i);
        if (number == NONE) {
            return NO;
        }
        return part == 0 ? held.above[number] : held.below[number];
    }

    public int makes(int one, int other, int what, int to) {
        if (!isStore(one) || !isStore(other) || !isStore(to) || what < PLUS || what > TIMES) {
            return NONE;
        }
        if (!shelf.holds[one] || !shelf.holds[other]) {
            return STATE;
        }
        int refused = algebra.combine(shelf.sums[one], shelf.sums[other], what, scratch);
        return refused != 0 ? refused : shelf.put(to, scratch);
    }

    public int lift(int store, int size) {
        if (!isStore(store) || !flags.hasSize(size)) {
            return NONE;
        }
        if (!shelf.holds[store]) {
            return STATE;
        }
        Sum held = shelf.sums[store];
        if (algebra.greatestSize(held, held.kind) > size) {
            return BAD;
        }
        return algebra.raise(held, size, scratch) ? shelf.put(store, scratch) : OVER;
    }

    public int average(int store) {
        if (!isStore(store)) {
            return NONE;
        }
        if (!shelf.holds[store]) {
            return STATE;
        }
        int refused = algebra.uproot(shelf.sums[store], scratch);
        return refused != 0 ? refused : shelf.put(store, scratch);
    }

    public long bound(int store, int size, int which, int part) {
        if (!isStore(store) || !flags.hasSize(size) || which < 0 || which > 1 || !isPart(part)) {
            return NO;
        }
        Sum held = shelf.sums[store];
        if (!shelf.holds[store] || held.kind == OF_ROOTED || algebra.greatestSize(held, held.kind) > size
                || !algebra.raise(held, size, scratch)) {
            return NO;
        }
        int extreme = scratch.extremeOf(flags.firsts[size], flags.firsts[size + 1], which == 1);
        return part == 0 ? scratch.above[extreme] : scratch.below[extreme];
    }

    public long value(int store, int part) {
        if (!isStore(store) || !isPart(part) || !shelf.holds[store] || shelf.sums[store].kind == OF_ROOTED) {
            return NO;
        }
        return algebra.weigh(shelf.sums[store], hand, UNROOTED, answer) ? answer.part(part) : NO;
    }

    public long valueAt(int store, int point, int part) {
        if (!isStore(store) || !hand.has(point) || !isPart(part) || !shelf.holds[store]
                || shelf.sums[store].kind == OF_FLAGS) {
            return NO;
        }
        return algebra.weigh(shelf.sums[store], hand, point, answer) ? answer.part(part) : NO;
    }

    public int move(int from, int to) {
        if (!isStore(from) || !isStore(to)) {
            return NONE;
        }
        if (!shelf.holds[from]) {
            shelf.drop(to);
            return 0;
        }
        return shelf.put(to, shelf.sums[from]);
    }

    public int film(int store, int size) {
        if (!isStore(store) || !flags.hasSize(size)) {
            return NONE;
        }
        if (hand.many < size) {
            return STATE;
        }
        flags.tally(hand, UNROOTED, size);
        scratch.empty();
        scratch.kind = OF_FLAGS;
        for (int k = 0; k < flags.comers; k++) {
            int flag = flags.come[k];
            answer.become(flags.tallies[flag], flags.setsIn(hand.many, size));
            scratch.take(flag, answer);
        }
        return shelf.put(store, scratch);
    }

    // ---- the image

    public int image() {
        keptHand.become(hand);
        keptShelf.become(shelf);
        hasImage = true;
        return hand.many;
    }

    public int back() {
        if (!hasImage) {
            return STATE;
        }
        hand.become(keptHand);
        shelf.become(keptShelf);
        return hand.many;
    }

    public int count(int what) {
        switch (what) {
            case 0:
                return tape.size;
            case 1:
                return shelf.held();
            case 2:
                return shelf.terms();
            default:
                return NONE;
        }
    }

    private static boolean isStore(int store) {
        return store >= 0 && store < STORES;
    }

    private static boolean isPart(int part) {
        return part == 0 || part == 1;
    }

    /** A fraction in lowest terms; a product that is beyond a long is refused by false. */
    private static final class Fraction {
        long above = 0;
        long below = 1;

        void become(long a, long b) {
            if (b < 1) {
                above = 0;
                below = 1;
                return;
            }
            long common = greatestIn(a, b);
            above = a / common;
            below = b / common;
        }

        boolean times(long c, long d) {
            long falling = greatestIn(above, d);
            long rising = greatestIn(c, below);
            long a = above / falling;
            long e = c / rising;
            long b = below / rising;
            long f = d / falling;
            if (isBeyond(a, e) || isBeyond(b, f)) {
                return false;
            }
            long common = greatestIn(a * e, b * f);
            above = a * e / common;
            below = b * f / common;
            return true;
        }

        long part(int part) {
            return part == 0 ? above : below;
        }

        /** The greatest that divides both; at least 1, so that it can be divided by. */
        static long greatestIn(long a, long b) {
            if (b < 1) {
                return 1;
            }
            long greater = b;
            // the rest first: the least long has no positive counterpart
            long lesser = a % b;
            lesser = lesser < 0 ? -lesser : lesser;
            for (int step = 0; step < 100 && lesser > 0; step++) {
                long rest = greater % lesser;
                greater = lesser;
                lesser = rest;
            }
            return greater;
        }

        static boolean isBeyond(long a, long b) {
            if (a == 0 || b == 0) {
                return false;
            }
            // the one product that wraps to itself
            if (a == -1 && b == Long.MIN_VALUE || b == -1 && a == Long.MIN_VALUE) {
                return true;
            }
            return a * b / b != a;
        }

        /** By whole parts, then by the rests turned over: cross products could be beyond a long. */
        static boolean isLess(long a, long b, long c, long d) {
            long above = a;
            long below = b;
            long otherAbove = c;
            long otherBelow = d;
            boolean turned = false;
            for (int step = 0; step < 200 && below > 0 && otherBelow > 0; step++) {
                long whole = Math.floorDiv(above, below);
                long otherWhole = Math.floorDiv(otherAbove, otherBelow);
                if (whole != otherWhole) {
                    return whole < otherWhole != turned;
                }
                long rest = Math.floorMod(above, below);
                long otherRest = Math.floorMod(otherAbove, otherBelow);
                if (rest == 0 || otherRest == 0) {
                    return rest != otherRest && (rest == 0) != turned;
                }
                above = below;
                below = rest;
                otherAbove = otherBelow;
                otherBelow = otherRest;
                turned = !turned;
            }
            return false;
        }
    }

    /** A network of up to eight POINTS, a row of bits for each. */
    private static final class Net {
        int many = 0;
        final int[] rows = new int[MOST_POINTS];
        private final int[] chosen = new int[MOST_POINTS];

        void startWith(int n) {
            many = Math.max(0, Math.min(n, MOST_POINTS));
            for (int point = 0; point < MOST_POINTS; point++) {
                rows[point] = 0;
            }
        }

        void become(Net other) {
            many = other.many;
            for (int point = 0; point < MOST_POINTS; point++) {
                rows[point] = other.rows[point];
            }
        }

        void unfold(int size, int code) {
            startWith(size);
            for (int j = 1; j < many; j++) {
                for (int i = 0; i < j; i++) {
                    draw(i, j, (code & Family.bitOf(i, j)) != 0);
                }
            }
        }

        boolean has(int point) {
            return point >= 0 && point < many;
        }

        boolean joins(int one, int other) {
            return has(one) && has(other) && (rows[one] >> other & 1) != 0;
        }

        void draw(int one, int other, boolean is) {
            if (!has(one) || !has(other)) {
                return;
            }
            rows[one] = is ? rows[one] | 1 << other : rows[one] & ~(1 << other);
            rows[other] = is ? rows[other] | 1 << one : rows[other] & ~(1 << one);
        }

        int lines() {
            int ends = 0;
            for (int point = 0; point < many; point++) {
                ends += Integer.bitCount(rows[point]);
            }
            return ends / 2;
        }

        int mostLines() {
            int most = 0;
            for (int point = 0; point < many; point++) {
                most = Math.max(most, Integer.bitCount(rows[point]));
            }
            return most;
        }

        int evenTriples() {
            int even = 0;
            for (int c = 2; c < many; c++) {
                for (int b = 1; b < c; b++) {
                    for (int a = 0; a < b; a++) {
                        if (joins(a, b) == joins(a, c) && joins(a, c) == joins(b, c)) {
                            even++;
                        }
                    }
                }
            }
            return even;
        }

        /** The CODE of what lies on a set, its root (if there is one) becoming POINT 0. */
        int codeOn(int set, int root) {
            int n = 0;
            if (has(root)) {
                chosen[n] = root;
                n++;
            }
            for (int point = 0; point < many; point++) {
                if (point != root && (set >> point & 1) != 0 && n < MOST_POINTS) {
                    chosen[n] = point;
                    n++;
                }
            }
            int code = 0;
            for (int j = 1; j < n; j++) {
                for (int i = 0; i < j; i++) {
                    if ((rows[chosen[j]] >> chosen[i] & 1) != 0) {
                        code |= Family.bitOf(i, j);
                    }
                }
            }
            return code;
        }

        int mapsFrom(Net small) {
            int all = 1;
            for (int point = 0; point < small.many; point++) {
                all *= many;
            }
            int good = 0;
            for (int way = 0; way < all; way++) {
                if (keepsLines(small, way)) {
                    good++;
                }
            }
            return good;
        }

        /** A way is a number whose figures, as many POINTS being the base, are the POINTS mapped to. */
        private boolean keepsLines(Net small, int way) {
            int rest = way;
            for (int point = 0; point < small.many; point++) {
                if (many < 1) {
                    return false;
                }
                chosen[point] = rest % many;
                rest /= many;
            }
            for (int j = 1; j < small.many; j++) {
                for (int i = 0; i < j; i++) {
                    if (small.joins(i, j) && (rows[chosen[j]] >> chosen[i] & 1) == 0) {
                        return false;
                    }
                }
            }
            return true;
        }
    }

    /** All FLAGS, or all ROOTED ones, by their numbers; both are counted in the same way. */
    private static final class Family {
        final boolean isRooted;
        /** How many POINTS two that lie apart have together: the root, or none. */
        final int shared;
        final int many;
        final int[] sizes;
        final int[] codes;
        final Net[] nets;
        /** The first number of each SIZE, and one more: what ends the last SIZE. */
        final int[] firsts = new int[MOST_SIZE + 2];
        /** By SIZE and CODE. */
        final int[][] numbers = new int[MOST_SIZE + 1][MOST_CODES];
        /** By number and set of POINTS: the number of what lies there. */
        private final int[][] onSets;
        private final int[] renamings = allRenamings();

        /** How many sets have each number, and the numbers as they came first, by the last tally. */
        final int[] tallies;
        final int[] come;
        int comers = 0;

        Family(boolean isRooted, int many) {
            this.isRooted = isRooted;
            this.many = many;
            shared = isRooted ? 1 : 0;
            sizes = new int[many];
            codes = new int[many];
            nets = new Net[many];
            onSets = new int[many][MOST_SETS];
            tallies = new int[many];
            come = new int[many];
            numberAll();
            for (int number = 0; number < many; number++) {
                nets[number] = new Net();
                nets[number].unfold(sizes[number], codes[number]);
                for (int set = 0; set < 1 << sizes[number]; set++) {
                    onSets[number][set] = numberOn(nets[number], set, isRooted ? 0 : UNROOTED);
                }
            }
        }

        private void numberAll() {
            int next = 0;
            for (int size = 0; size <= MOST_SIZE; size++) {
                firsts[size] = next;
                int end = hasSize(size) ? codesOf(size) : 0;
                for (int code = 0; code < end; code++) {
                    int least = leastCode(size, code);
                    if (least == code && next < many) {
                        sizes[next] = size;
                        codes[next] = code;
                        numbers[size][code] = next;
                        next++;
                    } else {
                        numbers[size][code] = numbers[size][least];
                    }
                }
            }
            firsts[MOST_SIZE + 1] = next;
        }

        private int leastCode(int size, int code) {
            int least = code;
            for (int renaming : renamings) {
                if (suits(renaming, size)) {
                    least = Math.min(least, renamed(size, code, renaming));
                }
            }
            return least;
        }

        /** POINTS that are not there, and a root, keep their names. */
        private boolean suits(int renaming, int size) {
            for (int point = size; point < MOST_SIZE; point++) {
                if (newName(renaming, point) != point) {
                    return false;
                }
            }
            return !isRooted || newName(renaming, 0) == 0;
        }

        /** A renaming keeps the new name of each of four POINTS in two bits. */
        private static int[] allRenamings() {
            int[] all = new int[24];
            int n = 0;
            for (int names = 0; names < 256; names++) {
                int used = 0;
                for (int point = 0; point < MOST_SIZE; point++) {
                    used |= 1 << newName(names, point);
                }
                if (used == 15 && n < all.length) {
                    all[n] = names;
                    n++;
                }
            }
            return all;
        }

        private static int newName(int renaming, int point) {
            return renaming >> 2 * point & 3;
        }

        private static int renamed(int size, int code, int renaming) {
            int result = 0;
            for (int j = 1; j < size; j++) {
                for (int i = 0; i < j; i++) {
                    if ((code & bitOf(i, j)) != 0) {
                        result |= bitOf(newName(renaming, i), newName(renaming, j));
                    }
                }
            }
            return result;
        }

        static int bitOf(int one, int other) {
            int low = one < other ? one : other;
            int high = one < other ? other : one;
            return 1 << high * (high - 1) / 2 + low;
        }

        static int codesOf(int size) {
            return 1 << size * (size - 1) / 2;
        }

        boolean has(int number) {
            return number >= 0 && number < many;
        }

        boolean hasSize(int size) {
            return size >= shared && size <= MOST_SIZE;
        }

        int manyOf(int size) {
            return hasSize(size) ? firsts[size + 1] - firsts[size] : 0;
        }

        int symmetriesOf(int number) {
            int kept = 0;
            for (int renaming : renamings) {
                if (suits(renaming, sizes[number])
                        && renamed(sizes[number], codes[number], renaming) == codes[number]) {
                    kept++;
                }
            }
            return kept;
        }

        int oppositeOf(int number) {
            int size = sizes[number];
            return numbers[size][codesOf(size) - 1 - codes[number]];
        }

        /** The number of what a network has on a set (that has the root, if there is one). */
        int numberOn(Net net, int set, int root) {
            int size = Integer.bitCount(set);
            if (!hasSize(size) || isRooted && (!net.has(root) || (set >> root & 1) == 0)) {
                return NONE;
            }
            return numbers[size][net.codeOn(set, root)];
        }

        int sizeOfBoth(int one, int other) {
            return sizes[one] + sizes[other] - shared;
        }

        int setsIn(int points, int size) {
            return ways(points - shared, size - shared);
        }

        int pairsIn(int one, int other, int in) {
            return ways(sizes[in] - shared, sizes[one] - shared)
                    * ways(sizes[in] - sizes[one], sizes[other] - shared);
        }

        private static int ways(int points, int chosen) {
            if (chosen < 0 || chosen > points) {
                return 0;
            }
            int result = 1;
            for (int i = 0; i < chosen; i++) {
                result = result * (points - i) / (i + 1);
            }
            return result;
        }

        /** How many of the pairs have both; the root, as POINT 0, is what two sets share. */
        int jointsIn(int one, int other, int in) {
            int[] on = onSets[in];
            int end = 1 << sizes[in];
            int have = 0;
            for (int set = 0; set < end; set++) {
                if (on[set] != one) {
                    continue;
                }
                for (int apart = 0; apart < end; apart++) {
                    if (on[apart] == other && (set & apart) == shared) {
                        have++;
                    }
                }
            }
            return have;
        }

        void tally(Net net, int root, int size) {
            comers = 0;
            for (int number = 0; number < many; number++) {
                tallies[number] = 0;
            }
            for (int set = 0; set < 1 << net.many; set++) {
                int number = Integer.bitCount(set) == size ? numberOn(net, set, root) : NONE;
                if (number == NONE) {
                    continue;
                }
                if (tallies[number] == 0 && comers < many) {
                    come[comers] = number;
                    comers++;
                }
                tallies[number]++;
            }
        }

        void shareOf(int number, Net net, int root, Fraction share) {
            tally(net, root, sizes[number]);
            share.become(tallies[number], setsIn(net.many, sizes[number]));
        }

        int ranked(int size, int k) {
            for (int number = firsts[size]; number < firsts[size + 1]; number++) {
                int ahead = 0;
                for (int other = firsts[size]; other < firsts[size + 1]; other++) {
                    if (tallies[other] > tallies[number]
                            || tallies[other] == tallies[number] && other < number) {
                        ahead++;
                    }
                }
                if (ahead == k) {
                    return number;
                }
            }
            return NONE;
        }
    }

    /** COEFFICIENTS by numbers, 0 by 1 where there is no TERM; of NEITHER kind one stands at 0 alone. */
    private static final class Sum {
        int kind = NEITHER;
        final long[] above = new long[ROOTED];
        final long[] below = new long[ROOTED];

        Sum() {
            empty();
        }

        void empty() {
            kind = NEITHER;
            for (int number = 0; number < ROOTED; number++) {
                above[number] = 0;
                below[number] = 1;
            }
        }

        void become(Sum other) {
            kind = other.kind;
            for (int number = 0; number < ROOTED; number++) {
                above[number] = other.above[number];
                below[number] = other.below[number];
            }
        }

        int terms() {
            int terms = 0;
            for (int number = 0; number < ROOTED; number++) {
                if (above[number] != 0) {
                    terms++;
                }
            }
            return terms;
        }

        int numberOfTerm(int i) {
            int before = 0;
            for (int number = 0; number < ROOTED; number++) {
                if (above[number] != 0) {
                    if (before == i) {
                        return number;
                    }
                    before++;
                }
            }
            return NONE;
        }

        void take(int number, Fraction coefficient) {
            if (number >= 0 && number < ROOTED) {
                above[number] = coefficient.above;
                below[number] = coefficient.below;
            }
        }

        /** False, if what comes is OVER. */
        boolean add(int number, Fraction more) {
            if (number < 0 || number >= ROOTED) {
                return false;
            }
            long common = Fraction.greatestIn(below[number], more.below);
            long widen = more.below / common;
            long widenMore = below[number] / common;
            if (Fraction.isBeyond(above[number], widen) || Fraction.isBeyond(more.above, widenMore)
                    || Fraction.isBeyond(below[number], widen)) {
                return false;
            }
            long one = above[number] * widen;
            long other = more.above * widenMore;
            long both = one + other;
            if (((one ^ both) & (other ^ both)) < 0) {
                return false;
            }
            long under = below[number] * widen;
            common = Fraction.greatestIn(both, under);
            above[number] = both / common;
            below[number] = under / common;
            return true;
        }

        /** A SUM without TERMS is of neither kind. */
        void settle(int newKind) {
            kind = terms() == 0 ? NEITHER : newKind;
        }

        /** The number of the least or greatest from a first one up to an end. */
        int extremeOf(int first, int end, boolean greatest) {
            int best = first;
            for (int number = first + 1; number < end; number++) {
                boolean less = Fraction.isLess(above[number], below[number], above[best], below[best]);
                boolean more = Fraction.isLess(above[best], below[best], above[number], below[number]);
                if (greatest ? more : less) {
                    best = number;
                }
            }
            return best;
        }
    }

    /** What is done with SUMS; what is refused leaves what it was to be put into as it was. */
    private static final class Algebra {
        private final Family flags;
        private final Family roots;
        /** By ROOTED ones: the FLAG without the root, and how many of its POINTS are such roots. */
        final int[] bare = new int[ROOTED];
        final int[] ways = new int[ROOTED];
        private final Sum result = new Sum();
        /** The COEFFICIENTS of two TERMS times one another, and what is added. */
        private final Fraction both = new Fraction();
        private final Fraction more = new Fraction();
        /** FLAG 0, or ROOTED 0, once. */
        private final Sum unit = new Sum();

        Algebra(Family flags, Family roots) {
            this.flags = flags;
            this.roots = roots;
            more.become(1, 1);
            unit.take(0, more);
            for (int rooted = 0; rooted < ROOTED; rooted++) {
                Net net = roots.nets[rooted];
                int all = (1 << net.many) - 1;
                bare[rooted] = flags.numberOn(net, all, UNROOTED);
                for (int point = 0; point < net.many; point++) {
                    if (roots.numberOn(net, all, point) == rooted) {
                        ways[rooted]++;
                    }
                }
            }
        }

        private Family familyOf(int kind) {
            return kind == OF_ROOTED ? roots : flags;
        }

        /** The greatest SIZE of the TERMS, taken as those of a kind; NONE without TERMS. */
        int greatestSize(Sum of, int kind) {
            Family family = familyOf(kind);
            int greatest = NONE;
            for (int number = 0; number < family.many; number++) {
                if (of.above[number] != 0) {
                    greatest = Math.max(greatest, family.sizes[number]);
                }
            }
            return greatest;
        }

        /** 0, or as what it is refused: BAD, FULL, OVER. */
        int combine(Sum one, Sum other, int what, Sum to) {
            if (one.kind != NEITHER && other.kind != NEITHER && one.kind != other.kind) {
                return BAD;
            }
            int kind = one.kind == NEITHER ? other.kind : one.kind;
            if (what == TIMES && isTooLarge(greatestSize(one, kind), greatestSize(other, kind), kind)) {
                return FULL;
            }
            if (!(what == TIMES ? multiply(one, other, kind, NONE) : unite(one, other, what == LESS))) {
                return OVER;
            }
            result.settle(kind);
            to.become(result);
            return 0;
        }

        private static boolean isTooLarge(int size, int otherSize, int kind) {
            int together = size + otherSize - (kind == OF_ROOTED ? 1 : 0);
            return size != NONE && otherSize != NONE && together > MOST_SIZE;
        }

        private boolean unite(Sum one, Sum other, boolean less) {
            result.become(one);
            for (int number = 0; number < ROOTED; number++) {
                if (other.above[number] == 0) {
                    continue;
                }
                more.become(other.above[number], other.below[number]);
                if (less && !more.times(-1, 1) || !result.add(number, more)) {
                    return false;
                }
            }
            return true;
        }

        /** To those of a SIZE (NONE: that of both together). */
        private boolean multiply(Sum one, Sum other, int kind, int size) {
            Family family = familyOf(kind);
            result.empty();
            for (int f = 0; f < family.many; f++) {
                for (int g = 0; g < family.many; g++) {
                    if (one.above[f] == 0 || other.above[g] == 0) {
                        continue;
                    }
                    both.become(one.above[f], one.below[f]);
                    if (!both.times(other.above[g], other.below[g])
                            || !spread(f, g, family, size == NONE ? family.sizeOfBoth(f, g) : size)) {
                        return false;
                    }
                }
            }
            return true;
        }

        /** To each of a SIZE what is in both comes, as often as the two lie apart in it. */
        private boolean spread(int f, int g, Family family, int size) {
            int end = family.hasSize(size) ? family.firsts[size + 1] : 0;
            int first = family.hasSize(size) ? family.firsts[size] : 0;
            for (int in = first; in < end; in++) {
                more.become(family.jointsIn(f, g, in), family.pairsIn(f, g, in));
                if (more.above != 0 && (!more.times(both.above, both.below) || !result.add(in, more))) {
                    return false;
                }
            }
            return true;
        }

        /** LIFTED: INSIDE of one is JOINT of number 0 and it. */
        boolean raise(Sum of, int size, Sum to) {
            if (!multiply(unit, of, of.kind, size)) {
                return false;
            }
            result.settle(of.kind);
            to.become(result);
            return true;
        }

        /** AVERAGED: 0, or as what it is refused: BAD, OVER; what is of neither kind stays. */
        int uproot(Sum of, Sum to) {
            if (of.kind == OF_FLAGS) {
                return BAD;
            }
            if (of.kind == NEITHER) {
                to.become(of);
                return 0;
            }
            result.empty();
            for (int rooted = 0; rooted < ROOTED; rooted++) {
                if (of.above[rooted] == 0) {
                    continue;
                }
                more.become(ways[rooted], roots.sizes[rooted]);
                if (!more.times(of.above[rooted], of.below[rooted]) || !result.add(bare[rooted], more)) {
                    return OVER;
                }
            }
            result.settle(OF_FLAGS);
            to.become(result);
            return 0;
        }

        /** VALUE in a network; false: a TERM has more POINTS, or it is OVER. */
        boolean weigh(Sum of, Net net, int root, Fraction total) {
            if (greatestSize(of, of.kind) > net.many) {
                return false;
            }
            Family family = familyOf(of.kind);
            result.empty();
            for (int number = 0; number < family.many; number++) {
                if (of.above[number] == 0) {
                    continue;
                }
                family.shareOf(number, net, root, more);
                if (!more.times(of.above[number], of.below[number]) || !result.add(0, more)) {
                    return false;
                }
            }
            total.become(result.above[0], result.below[0]);
            return true;
        }
    }

    /** The STORES. */
    private static final class Shelf {
        final boolean[] holds = new boolean[STORES];
        final Sum[] sums = new Sum[STORES];

        Shelf() {
            for (int store = 0; store < STORES; store++) {
                sums[store] = new Sum();
            }
        }

        void become(Shelf other) {
            for (int store = 0; store < STORES; store++) {
                holds[store] = other.holds[store];
                sums[store].become(other.sums[store]);
            }
        }

        int put(int store, Sum what) {
            holds[store] = true;
            sums[store].become(what);
            return what.terms();
        }

        void drop(int store) {
            holds[store] = false;
            sums[store].empty();
        }

        int held() {
            int held = 0;
            for (int store = 0; store < STORES; store++) {
                if (holds[store]) {
                    held++;
                }
            }
            return held;
        }

        int terms() {
            int terms = 0;
            for (int store = 0; store < STORES; store++) {
                terms += sums[store].terms();
            }
            return terms;
        }
    }

    /** THE TAPE, and the orders it is taken apart into, as they come from the left on. */
    private static final class Text {
        private final Family flags;
        private final Family roots;
        final int[] bytes = new int[MOST_BYTES];
        int size = 0;

        /** An order is the sign that asks for it: a ONE to be taken, or what is done with those taken. */
        int orders = 0;
        final int[] signs = new int[MOST_BYTES];
        final int[] places = new int[MOST_BYTES];
        /** Of a fraction above and below; of a network its number (NONE: there is no such one). */
        final int[] firsts = new int[MOST_BYTES];
        final int[] seconds = new int[MOST_BYTES];

        private int at = 0;
        /** How many ( and { are open; by these (0: around all) where it was, and the signs that wait. */
        private int open = 0;
        private final int[] openedAt = new int[MOST_OPEN + 1];
        private final int[] addingAt = new int[MOST_OPEN + 1];
        private final int[] timesAt = new int[MOST_OPEN + 1];

        Text(Family flags, Family roots) {
            this.flags = flags;
            this.roots = roots;
        }

        /** 0, or the FAULT, of kind 1 or 2. */
        int takeApart() {
            int bad = takeAll();
            if (bad != NONE) {
                return faultOf(1, bad);
            }
            for (int i = 0; i < orders; i++) {
                if ((signs[i] == '[' || signs[i] == '<') && firsts[i] == NONE) {
                    return faultOf(2, places[i]);
                }
            }
            return 0;
        }

        static int faultOf(int kind, int place) {
            return -1000 * kind - place;
        }

        /** The place with which no TEXT can go on, or NONE. */
        private int takeAll() {
            at = 0;
            orders = 0;
            startLevel(0, NONE);
            boolean isBehindOne = false;
            for (int turn = 0; turn < MOST_BYTES && at < size; turn++) {
                int sign = bytes[at];
                boolean opens = sign == '(' || sign == '{';
                int bad = isBehindOne ? takeBehindOne(sign) : opens ? takeOpening() : takeOne(sign);
                if (bad != NONE) {
                    return bad;
                }
                isBehindOne = isBehindOne ? sign == ')' || sign == '}' : !opens;
            }
            endProduct();
            return isBehindOne && open == 0 ? NONE : size;
        }

        private void startLevel(int level, int place) {
            open = level;
            openedAt[level] = place;
            addingAt[level] = NONE;
            timesAt[level] = NONE;
        }

        private int takeOpening() {
            if (open >= MOST_OPEN) {
                return at;
            }
            startLevel(open + 1, at);
            at++;
            return NONE;
        }

        private int takeBehindOne(int sign) {
            int opening = open > 0 ? bytes[openedAt[open]] : NONE;
            boolean closes = opening == '(' && sign == ')' || opening == '{' && sign == '}';
            if (!closes && sign != '+' && sign != '-' && sign != '*') {
                return at;
            }
            if (sign == '*') {
                timesAt[open] = at;
            } else {
                endProduct();
            }
            if (sign == '+' || sign == '-') {
                addingAt[open] = at;
            }
            if (closes) {
                endLevel(opening);
            }
            at++;
            return NONE;
        }

        private void endLevel(int opening) {
            if (opening == '{') {
                order(opening, openedAt[open], 0, 0);
            }
            open = Math.max(open - 1, 0);
            endOne();
        }

        private void endOne() {
            if (timesAt[open] != NONE) {
                order('*', timesAt[open], 0, 0);
                timesAt[open] = NONE;
            }
        }

        private void endProduct() {
            if (addingAt[open] != NONE) {
                order(bytes[addingAt[open]], addingAt[open], 0, 0);
                addingAt[open] = NONE;
            }
        }

        private void order(int sign, int place, int first, int second) {
            if (orders < MOST_BYTES) {
                signs[orders] = sign;
                places[orders] = place;
                firsts[orders] = first;
                seconds[orders] = second;
                orders++;
            }
        }

        private int takeOne(int sign) {
            int bad = sign == '[' ? takeNet(']', flags) : sign == '<' ? takeNet('>', roots) : takeFraction();
            if (bad == NONE) {
                endOne();
            }
            return bad;
        }

        private int takeNet(int closing, Family family) {
            int from = at + 1;
            int end = endOfFigures(from);
            int bad = badFigure(from, end, MOST_FIGURES);
            if (bad != NONE) {
                return bad;
            }
            if (end >= size || bytes[end] != closing) {
                return end;
            }
            order(bytes[at], at, netOf(from, end, family), 0);
            at = end + 1;
            return NONE;
        }

        private int takeFraction() {
            int end = endOfFigures(at);
            int bad = badFigure(at, end, MOST_DIGITS);
            if (bad != NONE) {
                return bad;
            }
            int above = numberOf(at, end);
            int below = 1;
            if (end < size && bytes[end] == '/') {
                int from = end + 1;
                end = endOfFigures(from);
                bad = badFigure(from, end, MOST_DIGITS);
                if (bad != NONE) {
                    return bad;
                }
                below = numberOf(from, end);
                if (below == 0) {
                    return from;
                }
            }
            order(FRACTION_SIGN, at, above, below);
            at = end;
            return NONE;
        }

        private int endOfFigures(int from) {
            int end = from;
            while (end < size && bytes[end] >= '0' && bytes[end] <= '9') {
                end++;
            }
            return end;
        }

        private static int badFigure(int from, int end, int most) {
            if (end == from) {
                return from;
            }
            return end - from > most ? from + most : NONE;
        }

        private int numberOf(int from, int end) {
            int number = 0;
            for (int i = from; i < end; i++) {
                number = number * 10 + bytes[i] - '0';
            }
            return number;
        }

        private int netOf(int from, int end, Family family) {
            int points = bytes[from] - '0';
            if (!family.hasSize(points) || (end - from) % 2 == 0) {
                return NONE;
            }
            int code = 0;
            for (int i = from + 1; i + 1 < end; i += 2) {
                int one = bytes[i] - '0';
                int other = bytes[i + 1] - '0';
                if (one == other || one >= points || other >= points) {
                    return NONE;
                }
                code |= Family.bitOf(one, other);
            }
            return family.numbers[points][code];
        }
    }

    /** Carries out the orders of a TEXT: each ONE goes on a pile, what is done is done at its top. */
    private static final class Reckoner {
        private final Algebra algebra;
        private final Sum[] pile = new Sum[MOST_PILED];
        private int piled = 0;
        private final Fraction read = new Fraction();

        Reckoner(Algebra algebra) {
            this.algebra = algebra;
            for (int i = 0; i < MOST_PILED; i++) {
                pile[i] = new Sum();
            }
        }

        /** What has been worked out; a fraction alone is at last so many times FLAG 0. */
        Sum outcome() {
            if (pile[0].kind == NEITHER) {
                pile[0].settle(OF_FLAGS);
            }
            return pile[0];
        }

        /** 0, or the FAULT, of kind 3, 4 or 5. */
        int workOut(Text text) {
            piled = 0;
            for (int i = 0; i < text.orders; i++) {
                int sign = text.signs[i];
                int what = sign == '+' ? PLUS : sign == '-' ? LESS : sign == '*' ? TIMES : NONE;
                int refused = 0;
                if (what != NONE && piled > 1) {
                    piled--;
                    refused = algebra.combine(pile[piled - 1], pile[piled], what, pile[piled - 1]);
                } else if (sign == '{' && piled > 0) {
                    refused = algebra.uproot(pile[piled - 1], pile[piled - 1]);
                } else {
                    pileOne(sign, text.firsts[i], text.seconds[i]);
                }
                if (refused != 0) {
                    return Text.faultOf(refused == BAD ? 3 : refused == FULL ? 4 : 5, text.places[i]);
                }
            }
            return 0;
        }

        private void pileOne(int sign, int first, int second) {
            if (piled >= MOST_PILED) {
                return;
            }
            boolean isFraction = sign == FRACTION_SIGN;
            read.become(isFraction ? first : 1, isFraction ? second : 1);
            Sum one = pile[piled];
            one.empty();
            one.take(isFraction ? 0 : first, read);
            one.kind = isFraction ? NEITHER : sign == '<' ? OF_ROOTED : OF_FLAGS;
            piled++;
        }
    }
}
