import java.lang.reflect.Method;
import java.util.Set;
import java.util.function.Consumer;

/**
 * Every call with every mix of numbers that lie at and beyond all edges, several of them wrong at once: each answer and
 * digest is held against PlainBox, so no such call throws, and none that is refused changes anything.
 */
public final class ExtremesTest {
    private static final long[] MANY = {Integer.MIN_VALUE, -2, -1, 0, 1, 2, 3, 4, 5, 6, 8, 9, 10, 11, 99, 100, 101,
        Integer.MAX_VALUE};

    /** For the calls of four numbers and more. */
    private static final long[] FEW = {Integer.MIN_VALUE, -1, 0, 1, 15, 16, 100, Integer.MAX_VALUE};

    /** An object is used for at most 512 calls: these, the digest behind each, and what it was built by. */
    private static final int CALLS_OF_ONE = 220;

    /** All WAYS of a full box are too many to be written out for each of its calls. */
    private static final Set<String> BY_WAYS = Set.of("who", "named", "best", "all", "sure", "falls", "same", "noneOf",
            "friend", "of", "when", "span", "ahead", "doubt", "right", "ask", "next");

    private final Consumer<Pair> build;
    private Pair pair = new Pair();
    private int left = 0;
    private int wrong = 0;

    private ExtremesTest(Consumer<Pair> build) {
        this.build = build;
    }

    private static void empty(Pair pair) {
    }

    private static void some(Pair pair) {
        pair.call("person", 0, 100, 3, 7);
        pair.call("person", 1, 90, 1, 1);
        pair.call("parent", 1, 0);
        pair.call("picture", 0, 2);
        pair.call("picture", 1, 1);
        pair.call("head", 0, 3, 3, 0, 1);
        pair.call("head", 0, 1, 9, 1, 2);
        pair.call("head", 1, 2, 15, 0, 0);
        pair.call("name", 2, 1, 1, 0);
        pair.call("name", 3, 0, 0, 1);
        pair.call("join", 1, 2, 7);
        pair.call("image", 1);
        pair.call("who", 2, 1);
    }

    private static void nothing(Pair pair) {
        some(pair);
        pair.call("name", 1, 1, 0, 0);
        pair.call("name", 4, 1, 0, 0);
    }

    private static void full(Pair pair) {
        for (int p = 0; p < 5; p++) {
            pair.call("person", p, 100, p, p);
        }
        for (int p = 0; p < 4; p++) {
            pair.call("picture", p, p + 1);
            pair.call("head", p, p, p, p, p);
        }
        pair.call("head", 0, 1, 1, 1, 1);
        pair.call("head", 3, 1, 1, 1, 1);
        for (int n = 0; n < 4; n++) {
            pair.call("name", n, n, n, n);
            pair.call("join", n, (n + 1) % 4, n);
        }
        pair.call("image", 0);
        pair.type("strange 4; ".repeat(27) + "   ");
    }

    private void call(Method m, long[] args) {
        if (left == 0) {
            pair = new Pair();
            build.accept(pair);
            left = CALLS_OF_ONE;
        }
        long before = pair.plain.digest();
        int toldBefore = pair.told.size();
        pair.call(m, args);
        boolean changed = before != pair.plain.digest();
        left = changed || !pair.same ? 0 : left - 1;
        if (!pair.same) {
            wrong++;
            pair.told.subList(toldBefore, pair.told.size()).forEach(System.out::println);
        }
    }

    /** All mixes of the values for the numbers of a call from i on. */
    private void mix(Method m, long[] args, int i) {
        if (i == args.length) {
            call(m, args.clone());
            return;
        }
        for (long v : args.length > 3 ? FEW : MANY) {
            args[i] = v;
            mix(m, args, i + 1);
        }
    }

    private int run(boolean withWays) {
        for (Method m : Pair.CALLS) {
            if (withWays || !BY_WAYS.contains(m.getName())) {
                left = 0;
                mix(m, new long[m.getParameterCount()], 0);
            }
        }
        return wrong;
    }

    public static void main(String[] args) {
        int wrong = new ExtremesTest(ExtremesTest::empty).run(true);
        wrong += new ExtremesTest(ExtremesTest::some).run(true);
        wrong += new ExtremesTest(ExtremesTest::nothing).run(true);
        wrong += new ExtremesTest(ExtremesTest::full).run(false);
        System.out.println(wrong == 0 ? "all answers at and beyond the edges are as due" : wrong + " answers are not as due");
        if (wrong != 0) {
            System.exit(1);
        }
    }
}
