import java.math.BigInteger;

/** The boundary cases of promises 34 to 40: THE FRACTION's limbs, IMAGES, STATUS, counts, digest, and 512 calls. */
public final class FactsEdgesTest {
    private static final int NONE = Edges.NONE, BAD = Edges.BAD, NO = Edges.NO, FULL = Edges.FULL;

    /** ALL is 2 to a power: STRANGERS on a PICTURE of one year, 16 times 2 for each MARK, so 2 to the 4th .. 8th each. */
    private static NamelessBox power(int power) {
        NamelessBox x = new NamelessBox();
        x.strange(8);
        x.picture(1, 1);
        int left = power;
        while (left >= 4) {
            int rest = left - Math.min(left, 8);
            int taken = rest > 0 && rest < 4 ? left - 4 : left - rest;
            x.head(0, 0, (1 << taken - 4) - 1, 0, 0);
            left -= taken;
        }
        x.all();
        return x;
    }

    private static void limbs() {
        Edges.about(35, "digits to the base 1073741824, the lowest first");
        int[][] powers = {{4, 1}, {8, 1}, {29, 1}, {30, 2}, {31, 2}, {44, 2}, {48, 2}};
        for (int[] p : powers) {
            Edges.in(() -> power(p[0]));
            int last = p[1] - 1;
            Edges.answered("2 to the " + p[0] + ": how many limbs", x -> x.sign(1), p[1]);
            Edges.answered("2 to the " + p[0] + ": the last", x -> x.limb(0, last), 1L << p[0] - 30 * last);
            Edges.answered("2 to the " + p[0] + ": behind it", x -> x.limb(0, last + 1), NONE);
            if (last > 0) {
                Edges.answered("2 to the " + p[0] + ": the first", x -> x.limb(0, 0), 0);
            }
        }
        Edges.in(() -> greatPower(4));
        Edges.answered("2 to the 59: how many limbs", x -> x.sign(1), 2);
        Edges.answered("2 to the 59: the last", x -> x.limb(0, 1), 1 << 29);
        Edges.in(() -> greatPower(8));
        Edges.answered("2 to the 60: how many limbs", x -> x.sign(1), 3);
        Edges.answered("2 to the 60: the first", x -> x.limb(0, 0), 0);
        Edges.answered("2 to the 60: the second", x -> x.limb(0, 1), 0);
        Edges.answered("2 to the 60: the last", x -> x.limb(0, 2), 1);
        Edges.answered("2 to the 60: behind it", x -> x.limb(0, 3), NONE);
        fourLimbs();
    }

    /** Six STRANGERS of 2 to the 8th on a PICTURE of some years, three PICTURES of 8: 2 to the 57th times these years. */
    private static NamelessBox greatPower(int years) {
        NamelessBox x = new NamelessBox();
        x.strange(8);
        x.picture(0, years - 1);
        for (int p = 0; p < 3; p++) {
            x.picture(0, 7);
        }
        for (int h = 0; h < 6; h++) {
            x.head(0, 0, 15, 0, 0);
        }
        x.all();
        return x;
    }

    /** As great as ALL may be told: 10 to the 8th, 12 to the 4th, 324 to the 4th, 288 to the 2nd. */
    private static NamelessBox greatest() {
        NamelessBox x = new NamelessBox();
        x.person(0, 100, 0, 15);
        for (int p = 0; p < 4; p++) {
            x.picture(p, p + 11);
        }
        for (int h = 0; h < 6; h++) {
            x.head(Math.min(h, 3), 0, 15, 0, 99);
        }
        x.strange(9);
        for (int n = 0; n < 4; n++) {
            x.name(n == 3 ? 4 : 1, n == 3 ? 4 : n, 0, 0);
        }
        x.join(0, 1, 10);
        x.join(0, 2, 10);
        x.join(1, 2, 10);
        x.join(3, 0, 10);
        x.all();
        return x;
    }

    private static void fourLimbs() {
        Edges.about(35, "as many limbs as it takes");
        BigInteger due = BigInteger.TEN.pow(8).multiply(BigInteger.valueOf(12).pow(4))
                .multiply(BigInteger.valueOf(324).pow(4)).multiply(BigInteger.valueOf(288).pow(2));
        Edges.in(FactsEdgesTest::greatest);
        Edges.answered("how many limbs", x -> x.sign(1), 4);
        for (int limb = 0; limb < 4; limb++) {
            int i = limb;
            long digit = due.shiftRight(30 * i).and(BigInteger.valueOf((1 << 30) - 1)).longValue();
            Edges.answered("limb " + i, x -> x.limb(0, i), digit);
        }
        Edges.answered("limb 4", x -> x.limb(0, 4), NONE);
        Edges.answered("by 1", x -> x.sign(2), 1);
        Edges.answered("by 1", x -> x.limb(1, 0), 1);
        Edges.answered("by 1", x -> x.limb(1, 1), NONE);
    }

    /** Five PEOPLE alike, four PICTURES of a HEAD each: LIKES of 324, and of a STRANGER of 288, in each of 12 years. */
    private static NamelessBox manyAlike() {
        NamelessBox x = new NamelessBox();
        for (int p = 0; p < 5; p++) {
            x.person(0, 100, 0, 15);
        }
        x.strange(9);
        for (int p = 0; p < 4; p++) {
            x.picture(50, 61);
            x.head(p, 0, 15, 0, 99);
        }
        x.join(0, 1, 9);
        return x;
    }

    private static void carried() {
        Edges.about(35, "sums of numbers of many limbs: each limb stays below the base");
        Edges.in(FactsEdgesTest::manyAlike);
        // each HEAD: 5 x 324 + 288 = 1908, as 9, 9, 9, 9, 9, 8 of 53; HEADS 0, 1: 5 x 81 x 9 + (53 x 53 - 5 x 81) x 1
        BigInteger both = BigInteger.valueOf(5 * 81 * 9 + 53 * 53 - 5 * 81);
        BigInteger all = both.multiply(BigInteger.valueOf(53 * 53)).multiply(BigInteger.valueOf(36 * 12).pow(4));
        NamelessBox x = manyAlike();
        x.all();
        Edges.same("ALL", Edges.fractionOf(x), all + " by 1");
        Edges.share("same(0, 1)", y -> y.same(0, 1), 3645, 6049);
        Edges.share("same(2, 3)", y -> y.same(2, 3), 405, 2809);
        // 0 on none: HEADS 0, 1: 44 x 44 + 8 x 4 x 81, HEADS 2, 3: 44 x 44
        Edges.share("noneOf(0)", y -> y.noneOf(0), (44L * 44 + 8 * 4 * 81) * 44 * 44, 6049L * 2809);
        Edges.share("friend(0)", y -> y.friend(0), 0, 1);
        Edges.share("right()", y -> y.right(), 2 * (9 * 53 + 8 * 81) * 53 + 2 * 9 * 6049, 6049 * 53);
        Edges.about(35, "asked twice, the same answer");
        NamelessBox z = manyAlike();
        for (int i = 0; i < 2; i++) {
            z.same(0, 1);
            Edges.same("same(0, 1)", Edges.fractionOf(z), "3645 by 6049");
            z.noneOf(0);
            Edges.same("noneOf(0)", Edges.fractionOf(z), "8766208 by 16991641");
            z.right();
            z.friend(0);
            Edges.same("friend(0)", Edges.fractionOf(z), "0 by 1");
            z.of(0, 0);
            Edges.same("of(0, 0)", Edges.fractionOf(z), "0 by 1");
        }
    }

    /** Six HEADS of five PEOPLE, all bound together by JOINS: shares whose lowest terms have two limbs and three. */
    private static NamelessBox knotted() {
        NamelessBox x = new NamelessBox();
        int[] marks = {9, 6, 3, 12, 5};
        for (int p = 0; p < 5; p++) {
            x.person(p, 100, marks[p], 15 - p % 2);
            x.near(p, p);
        }
        for (int p = 0; p < 4; p++) {
            x.picture(10 + p, 20 + p);
        }
        int[] sights = {9, 14, 2, 13, 7, 1};
        for (int h = 0; h < 6; h++) {
            x.head(h % 4, sights[h], 15, 10 + h, 11 + h);
        }
        x.strange(5);
        x.name(2, 0, 0, 0);
        x.name(3, 1, 3, 1);
        x.name(5, 2, 4, 4);
        x.name(0, 3, 2, 2);
        x.join(0, 1, 7);
        x.join(1, 2, 3);
        x.join(2, 3, 6);
        x.join(3, 4, 9);
        return x;
    }

    private static void knot(NamelessBox x, String what, int got, int want, String fraction) {
        Edges.due(what, got, want);
        Edges.same("THE FRACTION behind " + what, Edges.fractionOf(x), fraction);
    }

    /** The numbers here were worked out from the document by a script of its own, with fractions of any length. */
    private static void threeLimbs() {
        Edges.about(34, "lowest terms, of several limbs, and nothing is left of those ahead");
        NamelessBox x = knotted();
        knot(x, "ask(4)", x.ask(4), 1, "21642012822729978557 by 42720721775361761700");
        Edges.due("limbs above", x.sign(1), 3);
        Edges.due("limbs below", x.sign(2), 3);
        knot(x, "all()", x.all(), 1, "708685509387121192488960 by 1");
        Edges.due("limbs below", x.sign(2), 1);
        Edges.due("nothing behind it", x.limb(1, 1), NONE);
        knot(x, "who(0, 0)", x.who(0, 0), 1, "106178588128709037 by 284804811835745078");
        knot(x, "who(5, NONE)", x.who(5, NONE), 1, "64228185518303680 by 142402405917872539");
        knot(x, "same(3, 4)", x.same(3, 4), 1, "157121685406245843 by 569609623671490156");
        knot(x, "noneOf(4)", x.noneOf(4), 1, "10626384253846295315 by 20505946452173645616");
        knot(x, "same(1, 5)", x.same(1, 5), 1, "0 by 1");
        Edges.due("limbs above", x.sign(1), 0);
        Edges.due("limbs below", x.sign(2), 1);
        knot(x, "friend(2)", x.friend(2), 1, "17765571465434220 by 142402405917872539");
        knot(x, "of(5, 3)", x.of(5, 3), 1, "23262667681280000 by 142402405917872539");
        knot(x, "when(0, 15)", x.when(0, 15), 1, "31606357122371709 by 284804811835745078");
        knot(x, "ahead(0, 1)", x.ahead(0, 1), 1, "2803787586435175685 by 5126486613043411404");
        knot(x, "right()", x.right(), 1, "3027048478740596680 by 1281621653260852851");
        knot(x, "next()", x.next(), 3, "7456467315777885639 by 14240240591787253900");
    }

    /**
     * A box that was searched for, so that ALL is 2 to the 91st: PICTURE 0 was taken ahead of all births, so HEAD 0 is a
     * STRANGER and its JOINS bring 8 each; what each other PICTURE brings is a power of 2.
     */
    private static NamelessBox powerOfTwo() {
        NamelessBox x = new NamelessBox();
        int[] born = {8, 8, 25, 24, 23};
        int[] marks = {12, 13, 12, 11, 9};
        int[] near = {1, 1, 1, 4, 1};
        for (int p = 0; p < 5; p++) {
            x.person(born[p], 100, marks[p], 15);
            x.near(p, near[p]);
        }
        x.picture(0, 7);
        x.picture(32, 41);
        x.picture(56, 66);
        x.picture(39, 49);
        x.head(0, 15, 15, 0, 99);
        x.head(1, 12, 15, 3, 29);
        x.head(2, 12, 15, 32, 72);
        x.head(2, 11, 15, 24, 63);
        x.head(3, 12, 15, 15, 72);
        x.head(3, 11, 15, 0, 46);
        x.strange(8);
        x.name(3, 1, 1, 3);
        x.name(0, 1, 0, 0);
        x.name(0, 1, 0, 3);
        x.name(0, 1, 0, 2);
        for (int j = 0; j < 4; j++) {
            x.join(0, 1, 2);
        }
        return x;
    }

    /** As in threeLimbs, the numbers were worked out from the document by a script of its own. */
    private static void highestLimbAlone() {
        Edges.about(19, "ALL is not 0, though all its limbs but the highest one are");
        NamelessBox x = powerOfTwo();
        knot(x, "all()", x.all(), 1, "2475880078570760549798248448 by 1");
        Edges.due("its sign", x.sign(0), 1);
        Edges.due("limbs above", x.sign(1), 4);
        for (int i = 0; i < 3; i++) {
            Edges.due("a limb of 0", x.limb(0, i), 0);
        }
        Edges.due("the highest limb", x.limb(0, 3), 2);
        knot(x, "who(1, 0)", x.who(1, 0), 1, "2187 by 4096");
        knot(x, "who(1, NONE)", x.who(1, NONE), 1, "5 by 32");
        knot(x, "named(2)", x.named(2), 0, "20493 by 65536");
        knot(x, "same(2, 4)", x.same(2, 4), 1, "6803167095 by 34359738368");
        knot(x, "noneOf(3)", x.noneOf(3), 1, "1368669644898499 by 4503599627370496");
        knot(x, "friend(0)", x.friend(0), 1, "231 by 1024");
        knot(x, "when(3, 44)", x.when(3, 44), 1, "12085 by 131072");
        knot(x, "ahead(1, 3)", x.ahead(1, 3), 1, "8252184305 by 8589934592");
        knot(x, "right()", x.right(), 1, "1592435 by 524288");
        Edges.due("sure(40)", x.sure(40), 43);
        Edges.due("falls(50, 1)", x.falls(50, 1), 2);
    }

    private static void sign() {
        Edges.about(34, "its sign (0), how many limbs above (1), below (2)");
        Edges.in(Edges::one);
        Edges.answered("of 0", x -> x.sign(0), 0);
        Edges.answered("of 0: none above", x -> x.sign(1), 0);
        Edges.answered("of 0: one below", x -> x.sign(2), 1);
        Edges.taken("of a share", x -> x.who(0, 0) * 0 + x.sign(0), 1);
        Edges.taken("of a share of 0, again", x -> x.who(0, 0) * 0 + x.name(1, 0, 0, 0) + x.who(0, NONE) * 0 + x.sign(0), 0);
        Edges.taken("of a share of 0: none above", x -> x.name(1, 0, 0, 0) + x.who(0, NONE) * 0 + x.sign(1), 0);
        Edges.taken("of a share of 0: one below", x -> x.name(1, 0, 0, 0) + x.who(0, NONE) * 0 + x.sign(2), 1);
        Edges.about(34, "a share of 0 is 0 by 1, whatever was ahead of it; ALL is by 1");
        NamelessBox z = Edges.one();
        z.who(0, 0);
        Edges.same("2 of 3", Edges.fractionOf(z), "2 by 3");
        z.of(0, 0);
        Edges.same("0", Edges.fractionOf(z), "0 by 1");
        z.who(0, NONE);
        z.all();
        Edges.same("ALL", Edges.fractionOf(z), "6 by 1");
        z.who(0, 0);
        z.from(0);
        Edges.same("behind a refusal", Edges.fractionOf(z), "2 by 3");
        Edges.about(34, "sign 0 .. 2");
        Edges.badOutside("sign", 0, 2, v -> x -> x.sign(v));
        Edges.in(Edges::some);
        Edges.badOutside("sign", 0, 2, v -> x -> x.sign(v));
    }

    private static void limb() {
        Edges.about(35, "above (0), below (1)");
        Edges.in(() -> {
            NamelessBox x = Edges.one();
            x.who(0, 0);
            return x;
        });
        Edges.answered("above", x -> x.limb(0, 0), 2);
        Edges.answered("below", x -> x.limb(1, 0), 3);
        Edges.badOutside("which", 0, 1, v -> x -> x.limb(v, 0));
        Edges.badOutside("which, of too great an i", 0, 1, v -> x -> x.limb(v, Edges.MOST));
        Edges.about(35, "NONE: not so many");
        for (int i : new int[] {1, 2, 3, 4, 5, 1 << 30, Edges.MOST}) {
            Edges.answered("limb(0, " + i + ")", x -> x.limb(0, i), NONE);
            Edges.answered("limb(1, " + i + ")", x -> x.limb(1, i), NONE);
        }
        Edges.about(35, "BAD: i below 0, too");
        for (int i : new int[] {-1, -2, Edges.LEAST}) {
            Edges.refused("limb(0, " + i + ")", x -> x.limb(0, i), BAD);
            Edges.refused("limb(1, " + i + ")", x -> x.limb(1, i), BAD);
        }
        Edges.in(NamelessBox::new);
        Edges.about(35, "0 has no limb above");
        Edges.answered("limb(0, 0)", x -> x.limb(0, 0), NONE);
    }

    private static void image() {
        Edges.about(36, "IMAGES 0, 1");
        Edges.in(Edges::some);
        Edges.taken("0", x -> x.image(0), 1);
        Edges.taken("1", x -> x.image(1), 1);
        Edges.badOutside("image", 0, 1, v -> x -> x.image(v));
        Edges.about(36, "it keeps an empty box and a full one");
        NamelessBox x = new NamelessBox();
        long empty = x.digest();
        x.image(0);
        NamelessBox y = Edges.full();
        y.clear();
        y.image(1);
        long full = y.digest();
        y.read();
        y.from(1);
        Edges.due("a full one", y.digest(), full);
        x.person(1, 1, 1, 1);
        x.picture(1, 1);
        x.head(0, 0, 0, 0, 0);
        x.name(0, 0, 0, 0);
        x.strange(5);
        x.from(0);
        Edges.due("an empty one", x.digest(), empty);
        Edges.about(36, "the later one goes over the one ahead; the other one stays");
        NamelessBox z = new NamelessBox();
        z.image(0);
        z.image(1);
        z.person(1, 1, 1, 1);
        z.image(0);
        z.person(2, 2, 2, 2);
        z.from(1);
        Edges.due("the other one", z.count(0), 0);
        z.from(0);
        Edges.due("the later one", z.count(0), 1);
        z.image(1);
        z.person(3, 3, 3, 3);
        z.from(1);
        Edges.due("kept from one that was gone on from", z.count(0), 1);
        Edges.about(36, "what comes behind does not change an IMAGE");
        NamelessBox w = Edges.some();
        w.image(1);
        w.near(0, 4);
        w.parent(1, NONE);
        w.strange(9);
        w.from(1);
        w.near(0, 4);
        w.strange(9);
        w.from(1);
        Edges.due("NEAR", w.near(0, 0), 2);
        Edges.due("PARENT", w.parent(1, NONE), 0);
        Edges.due("STRANGE", w.strange(0), 3);
    }

    private static void from() {
        Edges.about(37, "IMAGES 0, 1");
        Edges.in(Edges::full);
        Edges.taken("0", x -> x.from(0), 1);
        Edges.taken("1", x -> x.from(1), 1);
        Edges.badOutside("from", 0, 1, v -> x -> x.from(v));
        Edges.about(37, "NO: none was kept");
        Edges.in(NamelessBox::new);
        Edges.refused("0", x -> x.from(0), NO);
        Edges.refused("1", x -> x.from(1), NO);
        Edges.badOutside("from", 0, 1, v -> x -> x.from(v));
        Edges.in(Edges::some);
        Edges.refused("1, while 0 was kept", x -> x.from(1), NO);
        Edges.in(() -> {
            NamelessBox x = new NamelessBox();
            x.image(1);
            return x;
        });
        Edges.refused("0, while 1 was kept", x -> x.from(0), NO);
        Edges.in(() -> {
            NamelessBox x = new NamelessBox();
            x.image(2);
            x.image(-1);
            return x;
        });
        Edges.refused("0, while none was taken", x -> x.from(0), NO);
        Edges.refused("1, while none was taken", x -> x.from(1), NO);
        Edges.about(37, "all but IMAGES, THE TEXT, THE FRACTION and STATUS");
        NamelessBox x = Edges.full();
        x.status(9);
        x.picture(0, 0);
        x.all();
        String was = Edges.fractionOf(x);
        Edges.due("from(0)", x.from(0), 1);
        Edges.due("PEOPLE", x.count(0), 1);
        Edges.due("PICTURES", x.count(1), 0);
        Edges.due("THE TEXT", x.count(5), 300);
        Edges.same("THE FRACTION", Edges.fractionOf(x), was);
        Edges.due("BAD", x.status(0), 1);
        Edges.due("FULL", x.status(2), 1);
        Edges.due("the other IMAGE", x.from(1), 1);
        Edges.due("PEOPLE", x.count(0), 2);
        Edges.due("it is kept still", x.from(0), 1);
        Edges.due("PEOPLE", x.count(0), 1);
        Edges.about(37, "WAYS go by what it went on from");
        x.all();
        Edges.same("ALL without PICTURES", Edges.fractionOf(x), "1 by 1");
    }

    private static void status() {
        Edges.about(38, "BAD (0), NO (1), FULL (2)");
        Edges.in(Edges::full);
        Edges.answered("0", x -> x.status(0), 0);
        Edges.answered("1", x -> x.status(1), 0);
        Edges.answered("2", x -> x.status(2), 0);
        Edges.about(38, "-1: another what (counts as BAD)");
        Edges.refusedOutside("status", 0, 2, v -> x -> x.status(v), -1);
        Edges.about(38, "each answer told so is such a one");
        NamelessBox x = Edges.full();
        x.sign(3);
        x.parent(0, 0);
        x.status(3);
        Edges.due("BAD", x.status(0), 3);
        x.name(1, 0, 0, 0);
        x.type(0, 1);
        Edges.due("FULL", x.status(2), 2);
        x.from(0);
        x.picture(1, 1);
        x.head(0, 0, 0, 0, 0);
        x.strange(0);
        x.person(0, 0, 0, 0);
        x.all();
        x.next();
        Edges.due("NO", x.status(1), 2);
        Edges.due("BAD", x.status(0), 3);
        Edges.due("FULL", x.status(2), 2);
        Edges.about(38, "NONE, 0 and what read() answers are none; ITEMS are none");
        NamelessBox y = new NamelessBox();
        y.next();
        y.limb(0, 9);
        y.person(1, 1, 0, 0);
        y.person(1, 1, 0, 0);
        y.mark(0, 0);
        y.parts(0, 1);
        y.doubt(0, 1);
        y.parent(0, NONE);
        y.sure(0);
        Edges.typed(y, "strange 10;");
        y.read();
        y.clear();
        Edges.typed(y, "person 1 1 0 0;".repeat(6));
        y.read();
        Edges.typed(y, "x");
        y.read();
        for (int what = 0; what <= 2; what++) {
            Edges.due("status(" + what + ")", y.status(what), 0);
        }
    }

    private static void count() {
        Edges.about(39, "0 PEOPLE, 1 PICTURES, 2 HEADS, 3 NAMES, 4 JOINS, 5 bytes of THE TEXT");
        int[] most = {5, 4, 6, 4, 4, 300};
        for (int what = 0; what <= 5; what++) {
            int w = what;
            Edges.in(NamelessBox::new);
            Edges.answered("of an empty one " + w, x -> x.count(w), 0);
            Edges.in(Edges::full);
            Edges.answered("of a full one " + w, x -> x.count(w), most[w]);
        }
        Edges.badOutside("count", 0, 5, v -> x -> x.count(v));
        Edges.in(NamelessBox::new);
        Edges.badOutside("count", 0, 5, v -> x -> x.count(v));
    }

    private static void digest() {
        Edges.about(40, "of an empty one");
        Edges.in(NamelessBox::new);
        Edges.answered("digest()", x -> x.digest(), Edges.mix(0, 0, 0, 0, 0, 0, 1, 0, 0, 1, 1));
        Edges.about(40, "of a full one, with Java's wrap-around");
        Edges.in(() -> {
            NamelessBox x = Edges.full();
            x.all();
            return x;
        });
        NamelessBox x = Edges.full();
        x.all();
        long above = x.sign(1);
        long below = x.sign(2);
        Edges.due("more than a limb above", above > 1 ? 1 : 0, 1);
        long[] box = {5, 4, 6, 4, 4, 300, 5, 80, 3, 7, -1, 2, 30, 100, 1, 1, 0, 3, 50, 100, 8, 8, -1, 2, 51, 99, 0, 15, -1, 2,
            0, 0, 0, 0, -1, 2, 40, 43, 60, 60, 0, 11, 99, 99, 0, 3, 3, 30, 40, 0, 1, 9, 8, 12, 1, 2, 15, 28, 33,
            1, 0, 0, 0, 99, 2, 0, 1, 3, 4, 3, 15, 15, 40, 50, 2, 1, 1, 0, 0, 0, 0, 0, 3, 5, 2, 3, 5, 4, 0, 1,
            1, 2, 7, 0, 2, 1, 0, 3, 5, 5, 1, 9, 3};
        long h = Edges.mix(box);
        h = 31 * h + 1;
        h = 31 * h + above;
        h = 31 * h + below;
        for (int i = 0; i < above; i++) {
            h = 31 * h + x.limb(0, i);
        }
        for (int i = 0; i < below; i++) {
            h = 31 * h + x.limb(1, i);
        }
        Edges.answered("digest()", y -> y.digest(), h);
        Edges.about(40, "not what THE TEXT says, nor IMAGES, nor STATUS");
        NamelessBox a = Edges.typed(new NamelessBox(), "ab");
        NamelessBox b = Edges.typed(new NamelessBox(), "cd");
        b.image(0);
        b.image(7);
        b.from(1);
        Edges.due("digest()", a.digest(), b.digest());
        Edges.about(40, "how many bytes THE TEXT has");
        Edges.due("digest()", a.digest() == new NamelessBox().digest() ? 1 : 0, 0);
    }

    private static void manyCalls() {
        Edges.about(38, "an object is used for at most 512 calls: all of them count");
        NamelessBox x = new NamelessBox();
        for (int i = 0; i < 511; i++) {
            x.near(0, 0);
        }
        Edges.due("the 512th", x.status(0), 511);
        NamelessBox y = new NamelessBox();
        for (int i = 0; i < 511; i++) {
            y.from(1);
        }
        Edges.due("the 512th", y.status(1), 511);
        NamelessBox z = Edges.typed(new NamelessBox(), "x".repeat(300));
        for (int i = 0; i < 470; i++) {
            z.type(0, 1);
        }
        Edges.due("FULL", z.status(2), 470);
        Edges.due("THE TEXT", z.count(5), 300);
        NamelessBox w = Edges.full();
        for (int i = 0; i < 400; i++) {
            w.strange(i % 10);
            w.near(i % 5, i % 4);
        }
        Edges.due("changes", w.strange(0), 9);
        Edges.due("nothing was refused", w.status(0) + w.status(1) + w.status(2), 0);
    }

    public static void main(String[] args) {
        sign();
        limb();
        limbs();
        carried();
        threeLimbs();
        highestLimbAlone();
        image();
        from();
        status();
        count();
        digest();
        manyCalls();
        Edges.done();
    }
}
