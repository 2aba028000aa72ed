import java.util.function.IntToLongFunction;
import java.util.function.Supplier;
import java.util.function.ToLongFunction;

/** What the tests of bounds share: answers held against what is due, texts, all that an object holds. */
final class Checks {
    static final int NONE = -1;
    static final int BAD = -2;
    static final int STATE = -3;
    static final int FULL = -4;
    static final int LACKING = -5;
    static final int OVER = -6;
    static final long NO = Long.MIN_VALUE;

    static final int PLUS = 0;
    static final int LESS = 1;
    static final int TIMES = 2;

    /** Texts of the greatest and the least long, and of 2 to the 62. */
    static final String GREATEST = "49*73*127*337*(93*997+16)*(651*997+610)";
    static final String LEAST = "(0-512)*512*512*512*512*512*512";
    static final String HALF = "256*512*512*512*512*512*512";
    /** Of 1 by (2 to the 63, less 32768): no such text tells more below the line. */
    static final String FINEST = "1/512*1/832*1/765*1/679*1/241*1/257*1/673";
    static final long FINEST_BELOW = (1L << 62) - 32768 + (1L << 62);

    private static int wrong = 0;
    private static String sentence = "";

    private Checks() {
    }

    /** Which sentence of the document what follows is about. */
    static void about(String words) {
        sentence = words;
    }

    static void due(String call, long got, long want) {
        if (got != want) {
            wrong++;
            System.out.println(sentence + ": " + call + " answered " + got + ", due is " + want);
        }
    }

    static void must(String what, boolean holds) {
        due(what, holds ? 1 : 0, 1);
    }

    static void fraction(String call, long above, long below, long wantAbove, long wantBelow) {
        due(call + " above", above, wantAbove);
        due(call + " below", below, wantBelow);
    }

    static void end() {
        System.out.println(wrong == 0 ? "all bounds hold" : wrong + " answers are not as due");
        System.exit(wrong == 0 ? 0 : 1);
    }

    /** The first and the last are taken; those beside them, the least and the greatest int are refused. */
    static void range(String call, int first, int last, long refusal, IntToLongFunction asked) {
        must(call + " with " + first + ", the first, must be taken", asked.applyAsLong(first) != refusal);
        must(call + " with " + last + ", the last, must be taken", asked.applyAsLong(last) != refusal);
        due(call + " with " + (first - 1), asked.applyAsLong(first - 1), refusal);
        due(call + " with " + (last + 1), asked.applyAsLong(last + 1), refusal);
        due(call + " with the least int", asked.applyAsLong(Integer.MIN_VALUE), refusal);
        due(call + " with the greatest int", asked.applyAsLong(Integer.MAX_VALUE), refusal);
    }

    static DensitiesOfNets fresh() {
        return new DensitiesOfNets();
    }

    static int feed(DensitiesOfNets x, String text) {
        int size = x.count(0);
        for (int i = 0; i < text.length(); i++) {
            size = x.feed(text.charAt(i));
        }
        return size;
    }

    static int read(DensitiesOfNets x, int store, String text) {
        feed(x, text);
        return x.read(store);
    }

    /** A text alone, on a new object. */
    static void reads(String text, int want) {
        due("read of " + text, read(fresh(), 0, text), want);
    }

    /** STORES 0, 1, .. hold what the texts tell; nothing where there is no text. */
    static DensitiesOfNets holding(String... texts) {
        DensitiesOfNets x = fresh();
        for (int store = 0; store < texts.length; store++) {
            if (texts[store] != null) {
                must(texts[store] + " can be read", read(x, store, texts[store]) >= 0);
            }
        }
        return x;
    }

    /** POINTS and LINES, these two by two. */
    static DensitiesOfNets net(int points, int... ends) {
        DensitiesOfNets x = fresh();
        draw(x, points, ends);
        return x;
    }

    static void draw(DensitiesOfNets x, int points, int... ends) {
        x.points(points);
        for (int i = 0; i + 1 < ends.length; i += 2) {
            x.line(ends[i], ends[i + 1], 1);
        }
    }

    static DensitiesOfNets fullNet(int points) {
        DensitiesOfNets x = fresh();
        x.points(points);
        for (int j = 1; j < points; j++) {
            for (int i = 0; i < j; i++) {
                x.line(i, j, 1);
            }
        }
        return x;
    }

    /** A STORE holds just these: number, above, below of each TERM. */
    static void holds(DensitiesOfNets x, int store, long... terms) {
        int many = terms.length / 3;
        due("sum(" + store + ", 0)", x.sum(store, 0), many);
        for (int i = 0; i < many; i++) {
            due("term(" + store + ", " + i + ")", x.term(store, i), terms[3 * i]);
            fraction("coefficient(" + store + ", " + i + ")", x.coefficient(store, i, 0), x.coefficient(store, i, 1),
                    terms[3 * i + 1], terms[3 * i + 2]);
        }
        due("term behind the last", x.term(store, many), NONE);
    }

    static void holdsNothing(DensitiesOfNets x, int store) {
        due("sum(" + store + ", 0) of a STORE that holds nothing", x.sum(store, 0), STATE);
    }

    /** All that can be told: also of THE TAPE and THE IMAGE, so the object is of no use any more. */
    static String allOf(DensitiesOfNets x) {
        StringBuilder all = new StringBuilder();
        tellHeld(x, all);
        all.append(" tape ").append(x.count(0)).append(' ').append(x.read(0));
        tellStore(x, 0, all);
        all.append(" image ").append(x.back());
        tellHeld(x, all);
        return all.toString();
    }

    private static void tellHeld(DensitiesOfNets x, StringBuilder all) {
        for (int what = 0; what < 4; what++) {
            all.append(x.told(what)).append(' ');
        }
        for (int point = 0; point < x.told(0); point++) {
            all.append(' ').append(x.beside(point));
        }
        for (int store = 0; store < 4; store++) {
            tellStore(x, store, all);
        }
    }

    private static void tellStore(DensitiesOfNets x, int store, StringBuilder all) {
        all.append(" store ").append(store).append(": ").append(x.sum(store, 1)).append(' ').append(x.sum(store, 2));
        int many = x.sum(store, 0);
        for (int i = 0; i < many; i++) {
            all.append(' ').append(x.term(store, i)).append(" of ").append(x.coefficient(store, i, 0));
            all.append('/').append(x.coefficient(store, i, 1));
        }
    }

    /** A call answers as due, and leaves all as it was. */
    static void leavesAll(String call, Supplier<DensitiesOfNets> made, long want,
            ToLongFunction<DensitiesOfNets> asked) {
        DensitiesOfNets x = made.get();
        due(call, asked.applyAsLong(x), want);
        isAs(call, x, made.get());
    }

    static void isAs(String call, DensitiesOfNets x, DensitiesOfNets other) {
        String has = allOf(x);
        String had = allOf(other);
        if (!has.equals(had)) {
            wrong++;
            System.out.println(sentence + ": " + call + " left " + has + "\n  due is " + had);
        }
    }
}
