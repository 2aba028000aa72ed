import java.math.BigInteger;
import java.util.ArrayList;
import java.util.Collections;
import java.util.List;
import java.util.Map;
import java.util.Random;
import java.util.TreeMap;
import java.util.TreeSet;

/**
 * Random runs of calls, each answer held against a model that is written from the document alone:
 * by big integers, by lists of POINTS and by a parser that calls itself.
 */
public final class ModelTest {
    private static final int RUNS = 1500;
    private static final int CALLS = 512;
    /** A text is fed and read, then a STORE is looked at. */
    private static final int MOST_OF_A_TURN = 90;
    private static int wrong = 0;
    private static final Map<String, Integer> seen = new TreeMap<>();

    public static void main(String[] args) {
        everyJoint(FLAGS);
        everyJoint(ROOTS);
        everyShortText();
        for (int run = 0; run < RUNS && wrong == 0; run++) {
            new Run(run).go();
        }
        List<String> missing = new ArrayList<>();
        for (String must : MUST_BE_SEEN) {
            if (!seen.containsKey(must)) {
                missing.add(must);
            }
        }
        if (!missing.isEmpty()) {
            System.out.println("never met: " + missing);
            wrong++;
        }
        if (args.length > 0) {
            System.out.println(seen);
        }
        System.out.println(wrong == 0 ? "the model agrees" : "the model does not agree");
        System.exit(wrong == 0 ? 0 : 1);
    }

    /** So that the random runs can't quietly stop to reach what is rare. */
    private static final String[] MUST_BE_SEEN = {
        "read 1", "read 2", "read 3", "read 4", "read 5", "read done", "read none",
        "makes -1", "makes -2", "makes -3", "makes -4", "makes -6", "makes done",
        "lift -1", "lift -2", "lift -3", "lift -6", "lift done",
        "average -1", "average -2", "average -3", "average -6", "average done",
        "bound NO", "bound done", "bound over", "value NO", "value done", "value over",
        "valueAt NO", "valueAt done", "valueAt over",
        "film -1", "film -3", "film done", "feed -4", "feed -2", "points -2", "line -1", "line -2",
        "found -5", "rank -3", "back -3", "sum -5", "sum -3",
        "term -1", "term -3",
    };

    // ---- fractions

    private static final class Over extends Exception {
        private static final long serialVersionUID = 1L;
    }

    private static final class Fraction {
        final BigInteger above;
        final BigInteger below;

        Fraction(BigInteger above, BigInteger below) {
            BigInteger common = above.gcd(below);
            this.above = above.divide(common);
            this.below = below.divide(common);
        }

        static Fraction of(long above, long below) {
            return new Fraction(BigInteger.valueOf(above), BigInteger.valueOf(below));
        }

        static BigInteger held(BigInteger number) throws Over {
            if (number.bitLength() > 63) {
                throw new Over();
            }
            return number;
        }

        Fraction plus(Fraction other) throws Over {
            BigInteger g = below.gcd(other.below);
            BigInteger one = held(above.multiply(other.below.divide(g)));
            BigInteger two = held(other.above.multiply(below.divide(g)));
            return new Fraction(held(one.add(two)), held(below.multiply(other.below.divide(g))));
        }

        Fraction times(Fraction other) throws Over {
            BigInteger g = above.gcd(other.below);
            BigInteger h = other.above.gcd(below);
            BigInteger a = held(above.divide(g).multiply(other.above.divide(h)));
            BigInteger b = held(below.divide(h).multiply(other.below.divide(g)));
            return new Fraction(a, b);
        }

        boolean isZero() {
            return above.signum() == 0;
        }

        int compareWith(Fraction other) {
            return above.multiply(other.below).compareTo(other.above.multiply(below));
        }

        long part(int part) {
            return (part == 0 ? above : below).longValueExact();
        }
    }

    // ---- networks

    private static List<List<Integer>> orders(List<Integer> points) {
        List<List<Integer>> all = new ArrayList<>();
        if (points.isEmpty()) {
            all.add(new ArrayList<>());
            return all;
        }
        for (Integer first : points) {
            List<Integer> rest = new ArrayList<>(points);
            rest.remove(first);
            for (List<Integer> tail : orders(rest)) {
                tail.add(0, first);
                all.add(tail);
            }
        }
        return all;
    }

    private static List<List<Integer>> choices(List<Integer> from, int many) {
        List<List<Integer>> all = new ArrayList<>();
        if (many == 0) {
            all.add(new ArrayList<>());
            return all;
        }
        for (int i = 0; i < from.size(); i++) {
            for (List<Integer> rest : choices(from.subList(i + 1, from.size()), many - 1)) {
                rest.add(0, from.get(i));
                all.add(rest);
            }
        }
        return all;
    }

    private static int codeInOrder(boolean[][] net, List<Integer> order) {
        int code = 0;
        for (int j = 0; j < order.size(); j++) {
            for (int i = 0; i < j; i++) {
                if (net[order.get(i)][order.get(j)]) {
                    code += (int) Math.pow(2, j * (j - 1) / 2.0 + i);
                }
            }
        }
        return code;
    }

    private static boolean[][] netOf(int size, int code) {
        boolean[][] net = new boolean[size][size];
        int rest = code;
        for (int j = 1; j < size; j++) {
            for (int i = 0; i < j; i++) {
                net[i][j] = rest % 2 == 1;
                net[j][i] = net[i][j];
                rest /= 2;
            }
        }
        return net;
    }

    private static List<Integer> upTo(int many) {
        List<Integer> all = new ArrayList<>();
        for (int i = 0; i < many; i++) {
            all.add(i);
        }
        return all;
    }

    /** FLAGS, or ROOTED ones. */
    private static final class Kind {
        final boolean isRooted;
        final List<Integer> sizes = new ArrayList<>();
        final List<Integer> codes = new ArrayList<>();

        Kind(boolean isRooted) {
            this.isRooted = isRooted;
            for (int size = isRooted ? 1 : 0; size <= 4; size++) {
                TreeSet<Integer> least = new TreeSet<>();
                for (int code = 0; code < 1 << size * (size - 1) / 2; code++) {
                    least.add(leastCode(netOf(size, code), upTo(size)));
                }
                for (int code : least) {
                    sizes.add(size);
                    codes.add(code);
                }
            }
        }

        /** The root, of ROOTED ones, is the first of the points. */
        int leastCode(boolean[][] net, List<Integer> points) {
            int least = Integer.MAX_VALUE;
            List<Integer> free = isRooted ? points.subList(1, points.size()) : points;
            for (List<Integer> order : orders(free)) {
                if (isRooted) {
                    order.add(0, points.get(0));
                }
                least = Math.min(least, codeInOrder(net, order));
            }
            return least;
        }

        int numberOf(boolean[][] net, List<Integer> points) {
            int least = leastCode(net, points);
            for (int i = 0; i < sizes.size(); i++) {
                if (sizes.get(i) == points.size() && codes.get(i) == least) {
                    return i;
                }
            }
            throw new IllegalStateException();
        }

        int many() {
            return sizes.size();
        }

        boolean has(int number) {
            return number >= 0 && number < many();
        }

        boolean[][] net(int number) {
            return netOf(sizes.get(number), codes.get(number));
        }

        /** Sets of a network's points, each with the root first (ROOTED). */
        List<List<Integer>> sets(int points, int size, int root) {
            List<Integer> free = upTo(points);
            if (!isRooted) {
                return choices(free, size);
            }
            free.remove((Integer) root);
            List<List<Integer>> all = choices(free, size - 1);
            for (List<Integer> set : all) {
                set.add(0, root);
            }
            return all;
        }

        Fraction insideOf(int number, boolean[][] net, int root) {
            int have = 0;
            List<List<Integer>> sets = sets(net.length, sizes.get(number), root);
            for (List<Integer> set : sets) {
                have += numberOf(net, set) == number ? 1 : 0;
            }
            return Fraction.of(have, sets.size());
        }

        private final Map<Integer, Fraction> joints = new TreeMap<>();

        Fraction jointOf(int one, int other, int in) {
            int key = (one * 100 + other) * 100 + in;
            Fraction known = joints.get(key);
            if (known == null) {
                known = workJointOf(one, other, in);
                joints.put(key, known);
            }
            return known;
        }

        private Fraction workJointOf(int one, int other, int in) {
            int have = 0;
            int all = 0;
            boolean[][] net = net(in);
            for (List<Integer> set : sets(net.length, sizes.get(one), 0)) {
                for (List<Integer> apart : sets(net.length, sizes.get(other), 0)) {
                    List<Integer> together = new ArrayList<>(set);
                    together.retainAll(apart);
                    if (together.size() != (isRooted ? 1 : 0)) {
                        continue;
                    }
                    all++;
                    have += numberOf(net, set) == one && numberOf(net, apart) == other ? 1 : 0;
                }
            }
            return Fraction.of(have, all);
        }

        List<Integer> ofSize(int size) {
            List<Integer> all = new ArrayList<>();
            for (int i = 0; i < many(); i++) {
                if (sizes.get(i) == size) {
                    all.add(i);
                }
            }
            return all;
        }
    }

    private static final Kind FLAGS = new Kind(false);
    private static final Kind ROOTS = new Kind(true);

    // ---- sums

    /** kind: null (neither; one coefficient at 0 at most), or that of the terms. */
    private static final class Sum {
        Kind kind;
        final TreeMap<Integer, Fraction> terms = new TreeMap<>();

        void add(int number, Fraction what) throws Over {
            Fraction had = terms.containsKey(number) ? terms.get(number) : Fraction.of(0, 1);
            terms.put(number, had.plus(what));
        }

        Sum settled(Kind as) {
            terms.values().removeIf(Fraction::isZero);
            kind = terms.isEmpty() ? null : as;
            return this;
        }

        int greatest(Kind as) {
            int greatest = -5;
            for (int number : terms.keySet()) {
                greatest = Math.max(greatest, (as == null ? FLAGS : as).sizes.get(number));
            }
            return greatest;
        }
    }

    private static Sum single(Kind kind, int number, Fraction coefficient) {
        Sum sum = new Sum();
        sum.terms.put(number, coefficient);
        return sum.settled(kind);
    }

    private static final class Fault extends Exception {
        private static final long serialVersionUID = 1L;
        final int kind;
        final int place;

        Fault(int kind, int place) {
            this.kind = kind;
            this.place = place;
        }
    }

    /** Kinds of faults as in a TEXT. */
    private static Sum combined(Sum one, Sum other, char sign, int place) throws Fault {
        if (one.kind != null && other.kind != null && one.kind != other.kind) {
            throw new Fault(3, place);
        }
        Kind kind = one.kind != null ? one.kind : other.kind;
        Kind as = kind == null ? FLAGS : kind;
        if (sign == '*' && !one.terms.isEmpty() && !other.terms.isEmpty()
                && one.greatest(as) + other.greatest(as) - (as.isRooted ? 1 : 0) > 4) {
            throw new Fault(4, place);
        }
        try {
            return (sign == '*' ? product(one, other, as) : added(one, other, sign)).settled(kind);
        } catch (Over over) {
            throw new Fault(5, place);
        }
    }

    private static Sum added(Sum one, Sum other, char sign) throws Over {
        Sum result = new Sum();
        result.terms.putAll(one.terms);
        for (Map.Entry<Integer, Fraction> term : other.terms.entrySet()) {
            result.add(term.getKey(), sign == '+' ? term.getValue() : Fraction.of(-1, 1).times(term.getValue()));
        }
        return result;
    }

    private static Sum product(Sum one, Sum other, Kind as) throws Over {
        Sum result = new Sum();
        for (int f : one.terms.keySet()) {
            for (int g : other.terms.keySet()) {
                Fraction both = one.terms.get(f).times(other.terms.get(g));
                for (int in : as.ofSize(as.sizes.get(f) + as.sizes.get(g) - (as.isRooted ? 1 : 0))) {
                    Fraction joint = as.jointOf(f, g, in);
                    if (!joint.isZero()) {
                        result.add(in, both.times(joint));
                    }
                }
            }
        }
        return result;
    }

    private static Sum lifted(Sum of, int size) throws Over {
        Sum result = new Sum();
        for (int number : of.terms.keySet()) {
            for (int in : of.kind.ofSize(size)) {
                Fraction inside = of.kind.jointOf(0, number, in);
                if (!inside.isZero()) {
                    result.add(in, of.terms.get(number).times(inside));
                }
            }
        }
        return result.settled(of.kind);
    }

    private static Sum averaged(Sum of) throws Over {
        Sum result = new Sum();
        for (int rooted : of.terms.keySet()) {
            boolean[][] net = ROOTS.net(rooted);
            int flag = FLAGS.numberOf(net, upTo(net.length));
            int ways = 0;
            for (int root = 0; root < net.length; root++) {
                List<Integer> points = upTo(net.length);
                points.remove((Integer) root);
                points.add(0, root);
                ways += ROOTS.numberOf(net, points) == rooted ? 1 : 0;
            }
            result.add(flag, of.terms.get(rooted).times(Fraction.of(ways, net.length)));
        }
        return result.settled(FLAGS);
    }

    // ---- texts

    private static final class Parser {
        final String text;
        int at = 0;
        int open = 0;
        int badNet = -1;
        boolean working = false;

        Parser(String text) {
            this.text = text;
        }

        static Sum sumOf(String text) throws Fault {
            Parser parser = new Parser(text);
            parser.sum();
            if (parser.at < text.length()) {
                throw new Fault(1, parser.at);
            }
            if (parser.badNet >= 0) {
                throw new Fault(2, parser.badNet);
            }
            Parser worker = new Parser(text);
            worker.working = true;
            Sum sum = worker.sum();
            return sum.settled(sum.kind == null ? FLAGS : sum.kind);
        }

        char next() {
            return at < text.length() ? text.charAt(at) : (char) 200;
        }

        Sum join(Sum one, Sum other, char sign, int place) throws Fault {
            return working ? combined(one, other, sign, place) : one;
        }

        Sum sum() throws Fault {
            Sum sum = product();
            while (next() == '+' || next() == '-') {
                int place = at++;
                sum = join(sum, product(), text.charAt(place), place);
            }
            return sum;
        }

        Sum product() throws Fault {
            Sum product = one();
            while (next() == '*') {
                int place = at++;
                product = join(product, one(), '*', place);
            }
            return product;
        }

        Sum one() throws Fault {
            char c = next();
            if (c == '(' || c == '{') {
                return inner(c == '(' ? ')' : '}');
            }
            if (c == '[' || c == '<') {
                return net(c == '[' ? FLAGS : ROOTS, c == '[' ? ']' : '>');
            }
            int above = Integer.parseInt(figures(3));
            int below = 1;
            if (next() == '/') {
                int place = ++at;
                below = Integer.parseInt(figures(3));
                if (below == 0) {
                    throw new Fault(1, place);
                }
            }
            return single(null, 0, Fraction.of(above, below));
        }

        Sum inner(char closing) throws Fault {
            if (open == 3) {
                throw new Fault(1, at);
            }
            int place = at++;
            open++;
            Sum sum = sum();
            if (next() != closing) {
                throw new Fault(1, at);
            }
            at++;
            open--;
            if (closing == ')' || !working || sum.kind == null) {
                return sum;
            }
            if (sum.kind == FLAGS) {
                throw new Fault(3, place);
            }
            try {
                return averaged(sum);
            } catch (Over over) {
                throw new Fault(5, place);
            }
        }

        String figures(int most) throws Fault {
            StringBuilder figures = new StringBuilder();
            while (Character.isDigit(next())) {
                if (figures.length() == most) {
                    throw new Fault(1, at);
                }
                figures.append(next());
                at++;
            }
            if (figures.length() == 0) {
                throw new Fault(1, at);
            }
            return figures.toString();
        }

        Sum net(Kind kind, char closing) throws Fault {
            int place = at++;
            String figures = figures(9);
            if (next() != closing) {
                throw new Fault(1, at);
            }
            at++;
            int size = figures.charAt(0) - '0';
            boolean[][] net = new boolean[10][10];
            boolean bad = size > 4 || kind.isRooted && size == 0 || figures.length() % 2 == 0;
            for (int i = 1; i + 1 < figures.length(); i += 2) {
                int a = figures.charAt(i) - '0';
                int b = figures.charAt(i + 1) - '0';
                bad |= a == b || a >= size || b >= size;
                net[a][b] = true;
                net[b][a] = true;
            }
            if (bad) {
                badNet = badNet < 0 ? place : badNet;
                return new Sum();
            }
            return single(kind, kind.numberOf(net, upTo(size)), Fraction.of(1, 1));
        }
    }

    // ---- what an object is

    private static final class Model {
        boolean[][] hand = new boolean[0][0];
        Sum[] stores = new Sum[4];
        String tape = "";
        boolean[][] keptHand;
        Sum[] keptStores;

        static final long NO = Long.MIN_VALUE;

        static boolean in(int what, int first, int last) {
            return what >= first && what <= last;
        }

        static long part(Fraction fraction, int part) {
            return in(part, 0, 1) ? fraction.part(part) : NO;
        }

        int terms(int store) {
            return stores[store] == null ? 0 : stores[store].terms.size();
        }

        long flag(int flag, int what) {
            if (!FLAGS.has(flag) || !in(what, 0, 4)) {
                return -1;
            }
            boolean[][] net = FLAGS.net(flag);
            int lines = 0;
            boolean[][] opposite = new boolean[net.length][net.length];
            for (int a = 0; a < net.length; a++) {
                for (int b = 0; b < a; b++) {
                    lines += net[a][b] ? 1 : 0;
                    opposite[a][b] = !net[a][b];
                    opposite[b][a] = !net[a][b];
                }
            }
            int same = 0;
            for (List<Integer> order : orders(upTo(net.length))) {
                same += codeInOrder(net, order) == FLAGS.codes.get(flag) ? 1 : 0;
            }
            return new long[] {net.length, FLAGS.codes.get(flag), lines, same,
                FLAGS.numberOf(opposite, upTo(net.length))}[what];
        }

        long rooted(int rooted, int what) {
            if (!ROOTS.has(rooted) || !in(what, 0, 4)) {
                return -1;
            }
            boolean[][] net = ROOTS.net(rooted);
            int lines = 0;
            int ways = 0;
            for (int a = 0; a < net.length; a++) {
                lines += net[0][a] ? 1 : 0;
                List<Integer> points = upTo(net.length);
                Collections.swap(points, 0, a);
                ways += ROOTS.numberOf(net, points) == rooted ? 1 : 0;
            }
            return new long[] {net.length, ROOTS.codes.get(rooted), lines,
                FLAGS.numberOf(net, upTo(net.length)), ways}[what];
        }

        long alike(int is, int size, int code) {
            if (!in(is, 0, 1) || !in(size, is, 4)) {
                return -1;
            }
            if (!in(code, 0, (1 << size * (size - 1) / 2) - 1)) {
                return -2;
            }
            return (is == 0 ? FLAGS : ROOTS).numberOf(netOf(size, code), upTo(size));
        }

        long joint(Kind kind, int one, int other, int in, int part) {
            if (!kind.has(one) || !kind.has(other) || !kind.has(in) || !in(part, 0, 1)
                    || kind.sizes.get(one) + kind.sizes.get(other) - (kind.isRooted ? 1 : 0) > kind.sizes.get(in)) {
                return NO;
            }
            return part(kind.jointOf(one, other, in), part);
        }

        long points(int n) {
            if (!in(n, 0, 8)) {
                return -2;
            }
            int had = hand.length;
            hand = new boolean[n][n];
            return had;
        }

        long line(int one, int other, int is) {
            if (!in(one, 0, hand.length - 1) || !in(other, 0, hand.length - 1)) {
                return -1;
            }
            if (!in(is, 0, 1) || one == other) {
                return -2;
            }
            int was = hand[one][other] ? 1 : 0;
            hand[one][other] = is == 1;
            hand[other][one] = is == 1;
            return was;
        }

        long told(int what) {
            if (!in(what, 0, 3)) {
                return -1;
            }
            int ends = 0;
            int most = 0;
            for (boolean[] row : hand) {
                int here = 0;
                for (boolean is : row) {
                    here += is ? 1 : 0;
                }
                ends += here;
                most = Math.max(most, here);
            }
            int even = 0;
            for (List<Integer> three : choices(upTo(hand.length), 3)) {
                int code = codeInOrder(hand, three);
                even += code == 0 || code == 7 ? 1 : 0;
            }
            return new long[] {hand.length, ends / 2, most, even}[what];
        }

        long beside(int point) {
            if (!in(point, 0, hand.length - 1)) {
                return -1;
            }
            int bits = 0;
            for (int other = 0; other < hand.length; other++) {
                bits += hand[point][other] ? Math.pow(2, other) : 0;
            }
            return bits;
        }

        long share(int flag, int part) {
            if (!FLAGS.has(flag) || FLAGS.sizes.get(flag) > hand.length) {
                return NO;
            }
            return part(FLAGS.insideOf(flag, hand, -1), part);
        }

        long shareAt(int point, int rooted, int part) {
            if (!ROOTS.has(rooted) || !in(point, 0, hand.length - 1) || ROOTS.sizes.get(rooted) > hand.length) {
                return NO;
            }
            return part(ROOTS.insideOf(rooted, hand, point), part);
        }

        long maps(int flag) {
            return FLAGS.has(flag) ? mapsFrom(FLAGS.net(flag), new ArrayList<>()) : -1;
        }

        int mapsFrom(boolean[][] small, List<Integer> so) {
            if (so.size() == small.length) {
                return 1;
            }
            int all = 0;
            for (int to = 0; to < hand.length; to++) {
                boolean keeps = true;
                for (int before = 0; before < so.size(); before++) {
                    keeps &= !small[before][so.size()] || hand[so.get(before)][to];
                }
                if (keeps) {
                    List<Integer> more = new ArrayList<>(so);
                    more.add(to);
                    all += mapsFrom(small, more);
                }
            }
            return all;
        }

        long rank(int size, int k) {
            List<Integer> all = FLAGS.ofSize(size);
            if (!in(k, 0, all.size() - 1)) {
                return -1;
            }
            if (hand.length < size) {
                return -3;
            }
            Map<Integer, Fraction> shares = new TreeMap<>();
            for (int flag : all) {
                shares.put(flag, FLAGS.insideOf(flag, hand, -1));
            }
            all.sort((one, other) -> shares.get(other).compareWith(shares.get(one)));
            return all.get(k);
        }

        List<Integer> comers(int size) {
            List<Integer> come = new ArrayList<>();
            for (int bits = 0; bits < 1 << hand.length; bits++) {
                List<Integer> set = new ArrayList<>();
                for (int point = 0; point < hand.length; point++) {
                    if ((bits & 1 << point) != 0) {
                        set.add(point);
                    }
                }
                if (set.size() == size) {
                    int flag = FLAGS.numberOf(hand, set);
                    if (!come.contains(flag)) {
                        come.add(flag);
                    }
                }
            }
            return come;
        }

        long found(int size, int k) {
            if (!in(size, 0, 4) || k < -1) {
                return -1;
            }
            if (hand.length < size) {
                return -3;
            }
            List<Integer> come = comers(size);
            return k == -1 ? come.size() : k < come.size() ? come.get(k) : -5;
        }

        long feed(int sign) {
            if (!in(sign, 0, 127)) {
                return -2;
            }
            if (tape.length() == 60) {
                return -4;
            }
            tape += (char) sign;
            return tape.length();
        }

        long read(int store) {
            if (!in(store, 0, 3)) {
                return -1;
            }
            String text = tape;
            tape = "";
            try {
                Sum sum = Parser.sumOf(text);
                stores[store] = sum;
                return sum.terms.size();
            } catch (Fault fault) {
                return -1000 * fault.kind - fault.place;
            }
        }

        long clear(int store) {
            if (!in(store, 0, 3)) {
                return -1;
            }
            int had = terms(store);
            stores[store] = null;
            return had;
        }

        long sum(int store, int what) {
            if (!in(store, 0, 3) || !in(what, 0, 2)) {
                return -1;
            }
            if (stores[store] == null) {
                return -3;
            }
            return new long[] {terms(store), stores[store].kind == ROOTS ? 1 : 0,
                stores[store].greatest(stores[store].kind)}[what];
        }

        long term(int store, int i) {
            if (!in(store, 0, 3) || i < 0) {
                return -1;
            }
            if (stores[store] == null) {
                return -3;
            }
            return i < terms(store) ? new ArrayList<>(stores[store].terms.keySet()).get(i) : -1;
        }

        long coefficient(int store, int i, int part) {
            if (!in(store, 0, 3) || stores[store] == null || !in(i, 0, terms(store) - 1)) {
                return NO;
            }
            return part(new ArrayList<>(stores[store].terms.values()).get(i), part);
        }

        long makes(int one, int other, int what, int to) {
            if (!in(one, 0, 3) || !in(other, 0, 3) || !in(what, 0, 2) || !in(to, 0, 3)) {
                return -1;
            }
            if (stores[one] == null || stores[other] == null) {
                return -3;
            }
            try {
                stores[to] = combined(stores[one], stores[other], "+-*".charAt(what), 0);
                return terms(to);
            } catch (Fault fault) {
                return fault.kind == 3 ? -2 : fault.kind == 4 ? -4 : -6;
            }
        }

        long lift(int store, int size) {
            if (!in(store, 0, 3) || !in(size, 0, 4)) {
                return -1;
            }
            if (stores[store] == null) {
                return -3;
            }
            if (stores[store].greatest(stores[store].kind) > size) {
                return -2;
            }
            try {
                stores[store] = lifted(stores[store], size);
                return terms(store);
            } catch (Over over) {
                return -6;
            }
        }

        long average(int store) {
            if (!in(store, 0, 3)) {
                return -1;
            }
            if (stores[store] == null) {
                return -3;
            }
            if (stores[store].kind == FLAGS) {
                return -2;
            }
            try {
                stores[store] = averaged(stores[store]);
                return terms(store);
            } catch (Over over) {
                return -6;
            }
        }

        long bound(int store, int size, int which, int part) {
            if (!in(store, 0, 3) || !in(size, 0, 4) || !in(which, 0, 1) || !in(part, 0, 1)
                    || stores[store] == null || stores[store].kind == ROOTS
                    || stores[store].greatest(FLAGS) > size) {
                return NO;
            }
            try {
                Sum sum = lifted(stores[store], size);
                Fraction best = null;
                for (int flag : FLAGS.ofSize(size)) {
                    Fraction here = sum.terms.containsKey(flag) ? sum.terms.get(flag) : Fraction.of(0, 1);
                    int more = best == null ? 0 : here.compareWith(best);
                    if (best == null || (which == 0 ? more < 0 : more > 0)) {
                        best = here;
                    }
                }
                return part(best, part);
            } catch (Over over) {
                seen.merge("bound over", 1, Integer::sum);
                return NO;
            }
        }

        long worth(int store, int root, int part, String call) {
            Sum sum = stores[store];
            if (sum.greatest(sum.kind) > hand.length) {
                return NO;
            }
            try {
                Fraction total = Fraction.of(0, 1);
                for (Map.Entry<Integer, Fraction> term : sum.terms.entrySet()) {
                    total = total.plus(term.getValue().times(sum.kind.insideOf(term.getKey(), hand, root)));
                }
                return part(total, part);
            } catch (Over over) {
                seen.merge(call + " over", 1, Integer::sum);
                return NO;
            }
        }

        long value(int store, int part) {
            if (!in(store, 0, 3) || stores[store] == null || stores[store].kind == ROOTS) {
                return NO;
            }
            return worth(store, -1, part, "value");
        }

        long valueAt(int store, int point, int part) {
            if (!in(store, 0, 3) || !in(point, 0, hand.length - 1) || stores[store] == null
                    || stores[store].kind == FLAGS) {
                return NO;
            }
            return worth(store, point, part, "valueAt");
        }

        long move(int from, int to) {
            if (!in(from, 0, 3) || !in(to, 0, 3)) {
                return -1;
            }
            stores[to] = stores[from];
            return terms(to);
        }

        long film(int store, int size) {
            if (!in(store, 0, 3) || !in(size, 0, 4)) {
                return -1;
            }
            if (hand.length < size) {
                return -3;
            }
            Sum sum = new Sum();
            for (int flag : comers(size)) {
                sum.terms.put(flag, FLAGS.insideOf(flag, hand, -1));
            }
            stores[store] = sum.settled(FLAGS);
            return terms(store);
        }

        static boolean[][] copy(boolean[][] net) {
            boolean[][] copy = new boolean[net.length][];
            for (int i = 0; i < net.length; i++) {
                copy[i] = net[i].clone();
            }
            return copy;
        }

        long image() {
            keptHand = copy(hand);
            keptStores = stores.clone();
            return hand.length;
        }

        long back() {
            if (keptHand == null) {
                return -3;
            }
            hand = copy(keptHand);
            stores = keptStores.clone();
            return hand.length;
        }

        long count(int what) {
            int held = 0;
            int terms = 0;
            for (int store = 0; store < 4; store++) {
                held += stores[store] == null ? 0 : 1;
                terms += terms(store);
            }
            return in(what, 0, 2) ? new long[] {tape.length(), held, terms}[what] : -1;
        }
    }

    // ---- all that there is of a kind

    private static void agree(String call, long got, long want) {
        if (got != want && wrong < 5) {
            wrong++;
            System.out.println(call + " answered " + got + ", the model says " + want);
        }
    }

    private static void everyJoint(Kind kind) {
        Model model = new Model();
        for (int one = 0; one < kind.many(); one++) {
            for (int other = 0; other < kind.many(); other++) {
                DensitiesOfNets real = new DensitiesOfNets();
                for (int in = 0; in < kind.many(); in++) {
                    for (int part = 0; part < 2; part++) {
                        long got = kind.isRooted ? real.jointRooted(one, other, in, part)
                            : real.joint(one, other, in, part);
                        long want = model.joint(kind, one, other, in, part);
                        agree("joint(" + one + ", " + other + ", " + in + ", " + part + ")", got, want);
                        if (!kind.isRooted && one == 0) {
                            agree("inside(" + other + ", " + in + ", " + part + ")", real.inside(other, in, part),
                                want);
                        }
                    }
                }
            }
        }
    }

    /** All texts of up to four of these signs, a figure standing for others; behind some beginnings, too. */
    private static void everyShortText() {
        String signs = "013+-*/()[]{}<>";
        String[] beginnings = {"", "1/", "[2", "<20", "(((", "({1", "{<1>", "[4]*", "12", "[10101010", "1+(0/1)*"};
        for (String beginning : beginnings) {
            int most = beginning.isEmpty() ? 4 : 3;
            for (int length = 0; length <= most; length++) {
                int all = (int) Math.pow(signs.length(), length);
                DensitiesOfNets real = new DensitiesOfNets();
                int calls = 0;
                for (int i = 0; i < all; i++) {
                    StringBuilder text = new StringBuilder(beginning);
                    for (int at = 0, rest = i; at < length; at++, rest /= signs.length()) {
                        text.append(signs.charAt(rest % signs.length()));
                    }
                    if (calls > CALLS - 20) {
                        real = new DensitiesOfNets();
                        calls = 0;
                    }
                    readBoth(real, text.toString());
                    calls += text.length() + 1;
                }
            }
        }
    }

    private static void readBoth(DensitiesOfNets real, String text) {
        long want;
        try {
            want = Parser.sumOf(text).terms.size();
        } catch (Fault fault) {
            want = -1000 * fault.kind - fault.place;
        }
        for (int i = 0; i < text.length(); i++) {
            real.feed(text.charAt(i));
        }
        agree("read of " + text, real.read(0), want);
    }

    // ---- runs

    private static final class Run {
        final int number;
        final Random random;
        final DensitiesOfNets real = new DensitiesOfNets();
        final Model model = new Model();
        final StringBuilder told = new StringBuilder();
        int calls = 0;
        /** Runs of large fractions, of small ones; of many bad arguments, of few. */
        final boolean isLarge;
        final int badOneIn;

        Run(int number) {
            this.number = number;
            random = new Random(number);
            isLarge = random.nextInt(3) == 0;
            badOneIn = random.nextBoolean() ? 12 : 60;
        }

        int upTo(int last) {
            if (random.nextInt(badOneIn) == 0) {
                int[] odd = {-1, -2, last + 1, last + 2, Integer.MIN_VALUE, Integer.MAX_VALUE, 64, 1000};
                return odd[random.nextInt(odd.length)];
            }
            return random.nextInt(last + 1);
        }

        int point() {
            return upTo(Math.max(0, model.hand.length - 1));
        }

        void due(String call, long got, long want) {
            calls++;
            String name = call.substring(0, call.indexOf('('));
            if (told.length() < 100000) {
                told.append("      ").append(call).append(" -> ").append(want).append('\n');
            }
            note(name, want);
            if (got != want && wrong < 5) {
                wrong++;
                System.out.println("run " + number + ":\n" + told);
                System.out.println(call + " answered " + got + ", the model says " + want);
            }
        }

        void note(String name, long want) {
            if (name.equals("read")) {
                String how = want < -999 ? "" + -(want / 1000) : want == -1 ? "none" : "done";
                seen.merge("read " + how, 1, Integer::sum);
            } else {
                seen.merge(name + (want == Model.NO ? " NO" : want < 0 && want > -7 ? " " + want : " done"),
                        1, Integer::sum);
            }
        }

        void go() {
            if (random.nextInt(10) != 0) {
                int n = random.nextInt(9);
                due("points(" + n + ")", real.points(n), model.points(n));
                for (int i = random.nextInt(25); i > 0; i--) {
                    askLine();
                }
            }
            for (int i = random.nextInt(4); i > 0; i--) {
                feedText();
            }
            if (isLarge) {
                askAtOnce();
            }
            while (calls < CALLS - MOST_OF_A_TURN && wrong == 0) {
                int which = random.nextInt(40);
                if (which < 10) {
                    askNet(which);
                } else if (which < 16) {
                    askFlags(which);
                } else if (which < 20) {
                    feedText();
                } else {
                    askSums(which);
                }
                if (random.nextInt(16) == 0) {
                    askStores();
                }
            }
        }

        void askFlags(int which) {
            int a = upTo(18);
            int b = upTo(random.nextInt(3) == 0 ? 18 : 7);
            int c = upTo(18);
            int r = upTo(28);
            int s = upTo(random.nextInt(3) == 0 ? 28 : 8);
            int t = upTo(28);
            int w = upTo(4);
            int p = upTo(1);
            switch (which) {
                case 10: due("flag(" + a + "," + w + ")", real.flag(a, w), model.flag(a, w)); break;
                case 11: due("rooted(" + r + "," + w + ")", real.rooted(r, w), model.rooted(r, w)); break;
                case 12:
                    int code = upTo(w > 3 ? 63 : 7);
                    due("alike(" + p + "," + w + "," + code + ")", real.alike(p, w, code), model.alike(p, w, code));
                    break;
                case 13: due("inside(" + a + "," + c + "," + p + ")", real.inside(a, c, p),
                        model.joint(FLAGS, 0, a, c, p)); break;
                case 14: due("joint(" + b + "," + a + "," + c + "," + p + ")", real.joint(b, a, c, p),
                        model.joint(FLAGS, b, a, c, p)); break;
                default: due("jointRooted(" + s + "," + r + "," + t + "," + p + ")", real.jointRooted(s, r, t, p),
                        model.joint(ROOTS, s, r, t, p)); break;
            }
        }

        void askNet(int which) {
            int a = point();
            int b = point();
            int p = upTo(1);
            int w = upTo(4);
            int f = upTo(18);
            switch (which) {
                case 0:
                    if (random.nextInt(4) == 0) {
                        int n = upTo(8);
                        due("points(" + n + ")", real.points(n), model.points(n));
                    }
                    for (int i = random.nextInt(20); i > 0; i--) {
                        askLine();
                    }
                    break;
                case 1: askLine(); break;
                case 2: due("told(" + w + ")", real.told(w), model.told(w)); break;
                case 3: due("beside(" + a + ")", real.beside(a), model.beside(a)); break;
                case 4: due("share(" + f + "," + p + ")", real.share(f, p), model.share(f, p)); break;
                case 5:
                    int r = upTo(28);
                    due("shareAt(" + a + "," + r + "," + p + ")", real.shareAt(a, r, p), model.shareAt(a, r, p));
                    break;
                case 6: due("maps(" + f + ")", real.maps(f), model.maps(f)); break;
                case 7: due("rank(" + w + "," + b + ")", real.rank(w, b), model.rank(w, b)); break;
                case 8:
                    int k = upTo(10) - 1;
                    due("found(" + w + "," + k + ")", real.found(w, k), model.found(w, k));
                    due("rank(" + w + "," + k + ")", real.rank(w, k), model.rank(w, k));
                    break;
                default:
                    if (random.nextInt(4) == 0) {
                        due("image()", real.image(), model.image());
                    } else if (random.nextInt(4) == 0) {
                        due("back()", real.back(), model.back());
                    }
                    break;
            }
        }

        void askLine() {
            int a = point();
            int b = point();
            int is = upTo(1);
            due("line(" + a + "," + b + "," + is + ")", real.line(a, b, is), model.line(a, b, is));
        }

        void askSums(int which) {
            int s = upTo(3);
            int t = upTo(3);
            int u = upTo(3);
            int w = upTo(2);
            int z = random.nextBoolean() ? 4 : upTo(4);
            int p = upTo(1);
            int q = upTo(1);
            int a = point();
            switch (which) {
                case 20: case 21: case 22: case 23:
                    due("makes(" + s + "," + t + "," + w + "," + u + ")", real.makes(s, t, w, u),
                            model.makes(s, t, w, u));
                    break;
                case 24: due("lift(" + s + "," + z + ")", real.lift(s, z), model.lift(s, z)); break;
                case 25: due("average(" + s + ")", real.average(s), model.average(s)); break;
                case 26: case 27:
                    due("bound(" + s + "," + z + "," + p + "," + q + ")", real.bound(s, z, p, q),
                            model.bound(s, z, p, q));
                    break;
                case 28: case 29: due("value(" + s + "," + p + ")", real.value(s, p), model.value(s, p)); break;
                case 30: case 31:
                    due("valueAt(" + s + "," + a + "," + p + ")", real.valueAt(s, a, p), model.valueAt(s, a, p));
                    break;
                case 32: due("move(" + s + "," + t + ")", real.move(s, t), model.move(s, t)); break;
                case 33: due("film(" + s + "," + z + ")", real.film(s, z), model.film(s, z)); break;
                case 34:
                    if (random.nextInt(3) == 0) {
                        due("clear(" + s + ")", real.clear(s), model.clear(s));
                    }
                    break;
                case 35: due("sum(" + s + "," + w + ")", real.sum(s, w), model.sum(s, w)); break;
                case 36: due("count(" + w + ")", real.count(w), model.count(w)); break;
                default:
                    int i = upTo(6);
                    due("term(" + s + "," + i + ")", real.term(s, i), model.term(s, i));
                    due("coefficient(" + s + "," + i + "," + p + ")", real.coefficient(s, i, p),
                            model.coefficient(s, i, p));
                    break;
            }
        }

        /** All that the stores hold, so that a wrong change can't hide. */
        void askStores() {
            int s = random.nextInt(4);
            for (int what = 0; what < 3; what++) {
                due("sum(" + s + "," + what + ")", real.sum(s, what), model.sum(s, what));
            }
            for (int i = 0; i <= model.terms(s) && i < 5; i++) {
                due("term(" + s + "," + i + ")", real.term(s, i), model.term(s, i));
                due("coefficient(" + s + "," + i + ",0)", real.coefficient(s, i, 0), model.coefficient(s, i, 0));
                due("coefficient(" + s + "," + i + ",1)", real.coefficient(s, i, 1), model.coefficient(s, i, 1));
            }
        }

        void feedText() {
            StringBuilder text = new StringBuilder();
            for (int turn = 0; turn < 5 && (turn == 0 || text.length() > 60); turn++) {
                text.setLength(0);
                if (isLarge && random.nextBoolean()) {
                    writeLarge(text);
                } else {
                    writeSum(text, 0, random.nextInt(3));
                }
            }
            for (int i = random.nextInt(4) == 0 ? 1 + random.nextInt(2) : 0; i > 0; i--) {
                spoil(text);
            }
            for (int i = 0; i < text.length() && i < 64; i++) {
                due("feed(" + (int) text.charAt(i) + ")", real.feed(text.charAt(i)), model.feed(text.charAt(i)));
            }
            if (random.nextInt(30) == 0) {
                int odd = upTo(127);
                due("feed(" + odd + ")", real.feed(odd), model.feed(odd));
            }
            if (random.nextInt(40) != 0) {
                int store = upTo(3);
                due("read(" + store + ") of " + model.tape, real.read(store), model.read(store));
            }
        }

        /** TERMS with COEFFICIENTS near to what a long holds. */
        void writeLarge(StringBuilder text) {
            boolean isRooted = random.nextBoolean();
            boolean isSmall = random.nextBoolean();
            // those with one FLAG come together only when they are averaged
            boolean isPair = isRooted && random.nextBoolean();
            int many = isPair ? 2 : 1 + random.nextInt(3);
            for (int i = 0; i < many; i++) {
                text.append(i == 0 ? "" : random.nextBoolean() ? "+" : "-");
                if (isPair) {
                    text.append(i == 0 ? "<301>" : "<312>");
                } else {
                    writeNet(text, isRooted);
                }
                for (int factors = (3 + random.nextInt(7)) / many; factors > 0; factors--) {
                    text.append(isSmall ? "*1/" : "*").append(900 + random.nextInt(100));
                }
            }
        }

        /** What works a SUM out that has just been read, once with each STORE. */
        void askAtOnce() {
            for (int s = 0; s < 4; s++) {
                int a = point();
                int z = 2 + random.nextInt(3);
                due("value(" + s + ",0)", real.value(s, 0), model.value(s, 0));
                due("value(" + s + ",1)", real.value(s, 1), model.value(s, 1));
                due("valueAt(" + s + "," + a + ",0)", real.valueAt(s, a, 0), model.valueAt(s, a, 0));
                due("valueAt(" + s + "," + a + ",1)", real.valueAt(s, a, 1), model.valueAt(s, a, 1));
                for (int which = 0; which < 2; which++) {
                    due("bound(" + s + "," + z + "," + which + ",0)", real.bound(s, z, which, 0),
                            model.bound(s, z, which, 0));
                    due("bound(" + s + "," + z + "," + which + ",1)", real.bound(s, z, which, 1),
                            model.bound(s, z, which, 1));
                }
                if (random.nextBoolean()) {
                    due("average(" + s + ")", real.average(s), model.average(s));
                }
                due("lift(" + s + "," + z + ")", real.lift(s, z), model.lift(s, z));
            }
        }

        void spoil(StringBuilder text) {
            String signs = "0123456789+-*/()[]{}<>01 x";
            char sign = random.nextInt(20) == 0 ? (char) random.nextInt(128)
                : signs.charAt(random.nextInt(signs.length()));
            int at = random.nextInt(text.length() + 1);
            if (at == text.length() || random.nextInt(3) == 0) {
                text.insert(at, sign);
            } else if (random.nextBoolean()) {
                text.setCharAt(at, sign);
            } else {
                text.deleteCharAt(at);
            }
        }

        /** kind: 0 mostly FLAGS, 1 mostly ROOTED ones, 2 mostly ROOTED ones that are averaged. */
        void writeSum(StringBuilder text, int open, int kind) {
            int many = 1 + random.nextInt(open == 0 ? 4 : 3);
            for (int i = 0; i < many; i++) {
                if (i > 0) {
                    text.append(random.nextBoolean() ? '+' : '-');
                }
                writeProduct(text, open, kind);
            }
        }

        void writeProduct(StringBuilder text, int open, int kind) {
            int many = 1 + random.nextInt(3) * random.nextInt(2);
            if (isLarge && random.nextInt(3) == 0) {
                many = 1 + random.nextInt(9);
            }
            for (int i = 0; i < many; i++) {
                if (i > 0) {
                    text.append('*');
                }
                writeOne(text, open, kind, isLarge && i < many - 1 || random.nextInt(3) == 0);
            }
        }

        void writeOne(StringBuilder text, int open, int kind, boolean fraction) {
            int which = random.nextInt(40);
            if (which < 4 && open < 3 || which == 5) {
                text.append('(');
                writeSum(text, open + 1, kind);
                text.append(')');
            } else if (which < 12 && open < 3 && kind != 0 && (kind == 2 || which == 6)) {
                text.append('{');
                writeSum(text, open + 1, kind == 2 ? 1 : kind);
                text.append('}');
            } else if (fraction) {
                int most = isLarge ? 1000 : 8;
                text.append(random.nextInt(most));
                if (random.nextBoolean()) {
                    text.append('/').append(random.nextInt(30) == 0 ? 0 : 1 + random.nextInt(most - 1));
                }
            } else {
                boolean isRooted = kind != 0 != (random.nextInt(40) == 0);
                writeNet(text, isRooted);
            }
        }

        void writeNet(StringBuilder text, boolean isRooted) {
            int size = random.nextInt(60) == 0 ? random.nextInt(10)
                : 1 + random.nextInt(random.nextInt(3) == 0 ? 4 : 2);
            text.append(isRooted ? '<' : '[').append(size);
            for (int i = random.nextInt(4); i > 0 && size > 1; i--) {
                int a = random.nextInt(size);
                int b = (a + 1 + random.nextInt(size - 1)) % size;
                text.append(a).append(random.nextInt(80) == 0 ? a : b);
            }
            text.append(isRooted ? '>' : ']');
        }
    }
}
