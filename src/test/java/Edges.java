import java.util.ArrayList;
import java.util.List;
import java.util.function.Supplier;
import java.util.function.ToLongFunction;

/** What the tests of boundary cases share: a sentence of the document, the calls at its edge, and what is due there. */
final class Edges {
    static final int NONE = -1, BAD = -2, NO = -3, FULL = -4, STRANGER = 5;
    static final int LEAST = Integer.MIN_VALUE, MOST = Integer.MAX_VALUE;

    /** A call by the number that stands at the edge. */
    interface By {
        ToLongFunction<NamelessBox> at(int v);
    }

    private static String sentence = "";
    private static Supplier<NamelessBox> maker = NamelessBox::new;
    private static int wrong = 0;
    private static int checks = 0;

    private Edges() {
    }

    /** The promise, and what the document says of the edge that the next checks look at. */
    static void about(int promise, String words) {
        sentence = "promise " + promise + ", " + words;
    }

    /** Which box the next calls are made on, each one on a new one. */
    static void in(Supplier<NamelessBox> made) {
        maker = made;
    }

    static void due(String what, long got, long want) {
        checks++;
        if (got != want) {
            wrong++;
            System.out.println(sentence + ": " + what + " answered " + got + ", due is " + want);
        }
    }

    static void same(String what, Object got, Object want) {
        checks++;
        if (!got.equals(want)) {
            wrong++;
            System.out.println(sentence + ": " + what + " is " + got + ", due is " + want);
        }
    }

    /** The call is taken: its answer, and no refusal is counted. */
    static void taken(String what, ToLongFunction<NamelessBox> call, long answer) {
        NamelessBox x = maker.get();
        List<Integer> before = refusals(x);
        due(what, call.applyAsLong(x), answer);
        same("STATUS behind " + what, refusals(x), before);
    }

    /** The call is taken, and leaves all as it was. */
    static void answered(String what, ToLongFunction<NamelessBox> call, long answer) {
        taken(what, call, answer);
        NamelessBox x = maker.get();
        call.applyAsLong(x);
        same("all behind " + what, allOf(x), allOf(maker.get()));
    }

    /** The call is taken and THE FRACTION is its share. */
    static void share(String what, ToLongFunction<NamelessBox> call, long above, long below) {
        taken(what, call, 1);
        fraction(what, call, above, below);
    }

    static void fraction(String what, ToLongFunction<NamelessBox> call, long above, long below) {
        NamelessBox x = maker.get();
        call.applyAsLong(x);
        same("THE FRACTION behind " + what, fractionOf(x), above + " by " + below);
    }

    /** The call is refused: its answer, one more of its reason in STATUS, none of the others, and all else as it was. */
    static void refused(String what, ToLongFunction<NamelessBox> call, int answer) {
        NamelessBox x = maker.get();
        List<Integer> counts = new ArrayList<>(refusals(x));
        due(what, call.applyAsLong(x), answer);
        int reason = answer == NO ? 1 : answer == FULL ? 2 : 0;
        counts.set(reason, counts.get(reason) + 1);
        same("STATUS behind " + what, refusals(x), counts);
        same("all behind " + what, allOf(x), allOf(maker.get()));
    }

    /** BAD outside low .. high: the first number on either side, and those as far out as they come. */
    static void badOutside(String what, int low, int high, By call) {
        refusedOutside(what, low, high, call, BAD);
    }

    static void refusedOutside(String what, int low, int high, By call, int answer) {
        for (int v : new int[] {LEAST, low - 1, high + 1, MOST}) {
            refused(what + " with " + v, call.at(v), answer);
        }
    }

    static void done() {
        System.out.println(checks - wrong + " of " + checks + " boundary checks hold");
        if (wrong != 0) {
            System.exit(1);
        }
    }

    private static List<Integer> refusals(NamelessBox x) {
        return List.of(x.status(0), x.status(1), x.status(2));
    }

    static String fractionOf(NamelessBox x) {
        return whole(x, 0) + " by " + whole(x, 1);
    }

    static java.math.BigInteger whole(NamelessBox x, int which) {
        java.math.BigInteger v = java.math.BigInteger.ZERO;
        for (int i = x.sign(1 + which) - 1; i >= 0; i--) {
            v = v.shiftLeft(30).add(java.math.BigInteger.valueOf(x.limb(which, i)));
        }
        return v;
    }

    /** All that later calls can tell of a box but STATUS: the box, its WAYS, THE FRACTION, THE TEXT, both IMAGES. */
    static List<Long> allOf(NamelessBox x) {
        List<Long> all = new ArrayList<>();
        all.add(x.digest());
        all.add((long) x.next());
        all.add(x.digest());
        for (int h = 0; h < 6; h++) {
            all.add((long) x.named(h));
            all.add((long) x.best(h));
            all.add(x.digest());
        }
        all.add((long) x.read());
        all.add(x.digest());
        for (int i = 0; i < 2; i++) {
            all.add((long) x.from(i));
            all.add(x.digest());
        }
        all.add((long) x.clear());
        return all;
    }

    /** The digest of a box by the numbers that the document counts into it. */
    static long mix(long... values) {
        long h = 661;
        for (long v : values) {
            h = 31 * h + v;
        }
        return h;
    }

    static NamelessBox typed(NamelessBox x, String text) {
        for (int at = 0; at < text.length(); at += 8) {
            int n = Math.min(8, text.length() - at);
            long v = 0;
            for (int i = 0; i < n; i++) {
                v = v << 8 | text.charAt(at + i);
            }
            x.type(v, n);
        }
        return x;
    }

    /** Two PEOPLE, two PICTURES, HEADS 0, 1 on the first and 2 on the other, a NAME, a JOIN, a TEXT, IMAGE 0. */
    static NamelessBox some() {
        NamelessBox x = new NamelessBox();
        x.person(5, 80, 3, 7);
        x.image(0);
        x.person(30, 100, 1, 1);
        x.parent(1, 0);
        x.near(1, 3);
        x.picture(40, 43);
        x.picture(60, 60);
        x.head(0, 3, 3, 30, 40);
        x.head(0, 1, 9, 8, 12);
        x.head(1, 2, 15, 28, 33);
        x.name(2, 1, 1, 0);
        x.join(1, 2, 7);
        x.strange(3);
        x.who(2, 1);
        return typed(x, "person 9 9 0 0;strange 7;");
    }

    /** As many of all as there may be, both IMAGES, and a TEXT of 300 bytes. */
    static NamelessBox full() {
        NamelessBox x = some();
        x.clear();
        x.image(1);
        x.person(50, 100, 8, 8);
        x.person(51, 99, 0, 15);
        x.person(0, 0, 0, 0);
        x.picture(0, 11);
        x.picture(99, 99);
        x.head(1, 0, 0, 0, 99);
        x.head(2, 0, 1, 3, 4);
        x.head(3, 15, 15, 40, 50);
        x.name(0, 0, 0, 0);
        x.name(3, 5, 2, 3);
        x.name(5, 4, 0, 1);
        x.join(0, 2, 1);
        x.join(0, 3, 5);
        x.join(5, 1, 9);
        x.ahead(0, 1);
        return typed(x, "strange 4; ".repeat(27) + "   ");
    }

    /** As some(), but nobody may be HEAD 1: SURE and NEVER at once. ALL is 0. */
    static NamelessBox nothing() {
        NamelessBox x = some();
        x.name(1, 1, 0, 0);
        x.name(4, 1, 0, 0);
        return x;
    }

    /** A PERSON of 10 on a PICTURE of one year whose HEAD looks 10: LIKE is 4, as a STRANGER 2. */
    static NamelessBox one() {
        NamelessBox x = new NamelessBox();
        x.person(0, 100, 0, 0);
        x.picture(10, 10);
        x.head(0, 0, 0, 10, 10);
        return x;
    }

    /** As one(), with a second PERSON alike. */
    static NamelessBox twins() {
        NamelessBox x = one();
        x.person(0, 100, 0, 0);
        return x;
    }

    /** As one(), with a second PICTURE of one HEAD alike: both 16, one 8, the other 8, none 4: ALL is 36. */
    static NamelessBox apart() {
        NamelessBox x = one();
        x.picture(10, 10);
        x.head(1, 0, 0, 10, 10);
        return x;
    }

    /** A PICTURE of 10 .. 12: the PERSON's LIKES are 4, 2, 2, a STRANGER's 2, 2, 2: ALL is 14. */
    static NamelessBox years() {
        NamelessBox x = new NamelessBox();
        x.person(0, 100, 0, 0);
        x.picture(10, 12);
        x.head(0, 0, 0, 10, 10);
        return x;
    }
}
