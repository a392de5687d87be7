import java.math.BigInteger;

/** Each promise of the document by answers worked out from it: ordinary inputs, edges, wrong inputs. */
public final class PromiseTest {
    private static final int NONE = -1, BAD = -2, NO = -3, FULL = -4, STRANGER = 5, BIG = Integer.MAX_VALUE;
    private static int wrong = 0;
    private static int checks = 0;

    private static void due(int promise, String call, long got, long want) {
        checks++;
        if (got != want) {
            wrong++;
            System.out.println("promise " + promise + ": " + call + " answered " + got + ", due is " + want);
        }
    }

    private static BigInteger whole(NamelessBox x, int which) {
        BigInteger v = BigInteger.ZERO;
        for (int i = x.sign(1 + which) - 1; i >= 0; i--) {
            v = v.shiftLeft(30).add(BigInteger.valueOf(x.limb(which, i)));
        }
        return v;
    }

    private static void fraction(int promise, String call, NamelessBox x, long above, long below) {
        checks++;
        String got = whole(x, 0) + " by " + whole(x, 1);
        String want = above + " by " + below;
        if (!got.equals(want) || x.sign(0) != Long.signum(above)) {
            wrong++;
            System.out.println("promise " + promise + ": after " + call + " THE FRACTION is " + got + ", due is " + want);
        }
    }

    private static void share(int promise, String call, int answer, NamelessBox x, long above, long below) {
        due(promise, call, answer, 1);
        fraction(promise, call, x, above, below);
    }

    private static void type(NamelessBox x, String text) {
        for (int at = 0; at < text.length(); at += 8) {
            int n = Math.min(8, text.length() - at);
            long v = 0;
            for (int i = 0; i < n; i++) {
                v = v << 8 | text.charAt(at + i);
            }
            x.type(v, n);
        }
    }

    private static int read(NamelessBox x, String text) {
        x.clear();
        type(x, text);
        return x.read();
    }

    private static int readNew(String text) {
        return read(new NamelessBox(), text);
    }

    private static long mix(long... values) {
        long h = 661;
        for (long v : values) {
            h = 31 * h + v;
        }
        return h;
    }

    /** A PERSON of 10 on a PICTURE of one year, whose HEAD looks 10: LIKE is 4, as a STRANGER 2. */
    private static NamelessBox one() {
        NamelessBox x = new NamelessBox();
        x.person(0, 100, 0, 0);
        x.picture(10, 10);
        x.head(0, 0, 0, 10, 10);
        return x;
    }

    /** Two like PEOPLE, two like HEADS on one PICTURE: 16, 16 both; four times 8; 4 none: ALL is 68. */
    private static NamelessBox two() {
        NamelessBox x = one();
        x.person(0, 100, 0, 0);
        x.head(0, 0, 0, 10, 10);
        return x;
    }

    /** One PERSON, two PICTURES of one HEAD each. */
    private static NamelessBox apart() {
        NamelessBox x = one();
        x.picture(10, 10);
        x.head(1, 0, 0, 10, 10);
        return x;
    }

    /** A PICTURE of 10 .. 12, the PERSON's LIKES are 4, 2, 2, a STRANGER's 2, 2, 2: ALL is 14. */
    private static NamelessBox years() {
        NamelessBox x = new NamelessBox();
        x.person(0, 100, 0, 0);
        x.picture(10, 12);
        x.head(0, 0, 0, 10, 10);
        return x;
    }

    /** One HEAD of which nobody may be anything: SURE and NEVER at once. */
    private static NamelessBox never() {
        NamelessBox x = one();
        x.name(1, 0, 0, 0);
        x.name(4, 0, 0, 0);
        return x;
    }

    private static void aNewObject() {
        NamelessBox x = new NamelessBox();
        for (int what = 0; what <= 5; what++) {
            due(1, "count(" + what + ")", x.count(what), 0);
        }
        fraction(1, "new", x, 0, 1);
        due(1, "sign(1)", x.sign(1), 0);
        due(1, "sign(2)", x.sign(2), 1);
        due(1, "status(0)", x.status(0), 0);
        due(1, "status(1)", x.status(1), 0);
        due(1, "status(2)", x.status(2), 0);
        due(1, "strange(4)", x.strange(4), 1);
        due(1, "from(0)", x.from(0), NO);
        due(1, "from(1)", x.from(1), NO);
    }

    private static void person() {
        NamelessBox x = new NamelessBox();
        due(2, "born 0, lives", x.person(0, 100, 0, 0), 0);
        due(2, "born 99, died 99", x.person(99, 99, 15, 15), 1);
        int[][] bad = {{-1, 5, 0, 0}, {100, 100, 0, 0}, {5, 4, 0, 0}, {5, 101, 0, 0}, {5, 9, -1, 0}, {5, 9, 16, 0},
            {5, 9, 0, -1}, {5, 9, 0, 16}, {Integer.MIN_VALUE, BIG, BIG, BIG}};
        for (int[] b : bad) {
            due(2, "a bad one", x.person(b[0], b[1], b[2], b[3]), BAD);
        }
        due(2, "count", x.count(0), 2);
        due(2, "MARKS beyond KNOWN", x.person(3, 3, 15, 0), 2);
        due(2, "4th", x.person(3, 3, 0, 0), 3);
        due(2, "5th", x.person(3, 3, 0, 0), 4);
        due(2, "6th", x.person(3, 3, 0, 0), FULL);
        due(2, "a bad 6th", x.person(3, 2, 0, 0), BAD);
        due(2, "status(2)", x.status(2), 1);
        due(2, "status(0)", x.status(0), bad.length + 1);
        due(2, "count", x.count(0), 5);
    }

    private static void parent() {
        NamelessBox x = new NamelessBox();
        x.person(10, 30, 0, 0);
        x.person(30, 100, 0, 0);
        x.person(31, 100, 0, 0);
        x.person(10, 100, 0, 0);
        x.person(9, 100, 0, 0);
        due(3, "died in the year of the birth", x.parent(1, 0), NONE);
        due(3, "died ahead of it", x.parent(2, 0), -10);
        due(3, "born in the same year", x.parent(3, 0), -10);
        due(3, "born later", x.parent(4, 0), -10);
        due(3, "of itself", x.parent(2, 2), -10);
        due(3, "behind in number", x.parent(2, 4), -10);
        due(3, "there is none", x.parent(2, 5), -10);
        due(3, "below NONE", x.parent(2, -2), -10);
        due(3, "of nobody", x.parent(5, 0), -10);
        due(3, "of NONE", x.parent(-1, 0), -10);
        due(3, "counts as BAD", x.status(0), 9);
        due(3, "another", x.parent(2, 1), NONE);
        due(3, "none again", x.parent(2, NONE), 1);
        due(3, "what it was", x.parent(1, 0), 0);
    }

    private static void near() {
        NamelessBox x = one();
        due(4, "at first", x.near(0, 0), 2);
        due(4, "near(0, 4)", x.near(0, 4), 0);
        due(4, "near(0, 5)", x.near(0, 5), BAD);
        due(4, "near(0, -1)", x.near(0, -1), BAD);
        due(4, "near(1, 2)", x.near(1, 2), BAD);
        due(4, "near(-1, 2)", x.near(-1, 2), BAD);
        due(4, "near(0, 4)", x.near(0, 4), 4);
    }

    private static void picture() {
        NamelessBox x = new NamelessBox();
        due(5, "0 .. 11", x.picture(0, 11), 0);
        due(5, "0 .. 12", x.picture(0, 12), BAD);
        due(5, "99 .. 99", x.picture(99, 99), 1);
        due(5, "99 .. 100", x.picture(99, 100), BAD);
        due(5, "5 .. 4", x.picture(5, 4), BAD);
        due(5, "-1 .. 4", x.picture(-1, 4), BAD);
        due(5, "far apart", x.picture(Integer.MIN_VALUE, BIG), BAD);
        x.picture(1, 1);
        due(5, "4th", x.picture(1, 1), 3);
        due(5, "5th", x.picture(1, 1), FULL);
        due(5, "a bad 5th", x.picture(2, 1), BAD);
    }

    private static void head() {
        NamelessBox x = new NamelessBox();
        due(6, "no PICTURE", x.head(0, 0, 0, 0, 0), BAD);
        x.picture(1, 1);
        due(6, "a head", x.head(0, 15, 15, 0, 99), 0);
        due(6, "MARKS that are not SEEN", x.head(0, 15, 0, 99, 99), 1);
        int[][] bad = {{-1, 0, 0, 0, 0}, {1, 0, 0, 0, 0}, {0, -1, 0, 0, 0}, {0, 16, 0, 0, 0}, {0, 0, -1, 0, 0},
            {0, 0, 16, 0, 0}, {0, 0, 0, -1, 0}, {0, 0, 0, 5, 4}, {0, 0, 0, 5, 100}, {0, 0, 0, 100, 100}};
        for (int[] b : bad) {
            due(6, "a bad one", x.head(b[0], b[1], b[2], b[3], b[4]), BAD);
        }
        for (int h = 2; h < 6; h++) {
            due(6, "head", x.head(0, 0, 0, 0, 0), h);
        }
        due(6, "7th", x.head(0, 0, 0, 0, 0), FULL);
        due(6, "a bad 7th", x.head(4, 0, 0, 0, 0), BAD);
        due(6, "count", x.count(2), 6);
    }

    private static void name() {
        NamelessBox x = two();
        int[][] bad = {{-1, 0, 0, 0}, {6, 0, 0, 0}, {0, -1, 0, 0}, {0, 2, 0, 0}, {0, 0, -1, 0}, {0, 0, 2, 0},
            {0, 0, 0, -1}, {0, 0, 0, 2}, {1, 0, 0, 9}, {4, 0, 9, 0}};
        for (int[] b : bad) {
            due(7, "a bad one", x.name(b[0], b[1], b[2], b[3]), BAD);
        }
        for (int n = 0; n < 4; n++) {
            due(7, "name", x.name(n, 1, 0, 1), n);
        }
        due(7, "5th", x.name(5, 0, 0, 0), FULL);
        due(7, "a bad 5th", x.name(6, 0, 0, 0), BAD);
    }

    private static void join() {
        NamelessBox x = apart();
        x.head(0, 0, 0, 0, 0);
        due(8, "of one PICTURE", x.join(0, 2, 5), BAD);
        due(8, "of one HEAD", x.join(1, 1, 5), BAD);
        due(8, "no HEAD", x.join(0, 3, 5), BAD);
        due(8, "no HEAD", x.join(-1, 1, 5), BAD);
        due(8, "w -1", x.join(0, 1, -1), BAD);
        due(8, "w 11", x.join(0, 1, 11), BAD);
        due(8, "w 0", x.join(0, 1, 0), 0);
        due(8, "w 10", x.join(1, 0, 10), 1);
        due(8, "w 5", x.join(2, 1, 5), 2);
        due(8, "w 5", x.join(2, 1, 5), 3);
        due(8, "5th", x.join(2, 1, 5), FULL);
        due(8, "a bad 5th", x.join(2, 0, 5), BAD);
    }

    private static void strange() {
        NamelessBox x = new NamelessBox();
        due(9, "strange(9)", x.strange(9), 1);
        due(9, "strange(0)", x.strange(0), 9);
        due(9, "strange(-1)", x.strange(-1), BAD);
        due(9, "strange(10)", x.strange(10), BAD);
        due(9, "strange(3)", x.strange(3), 0);
    }

    private static void mark() {
        NamelessBox x = new NamelessBox();
        x.person(0, 100, 5, 7);
        x.person(20, 100, 2, 2);
        x.person(40, 100, 15, 0);
        due(10, "not known", x.mark(1, 0), NONE);
        x.parent(1, 0);
        x.parent(2, 1);
        int[] grandchild = {1, 1, 1, NONE};
        for (int m = 0; m < 4; m++) {
            due(10, "mark(2, " + m + ")", x.mark(2, m), grandchild[m]);
        }
        due(10, "mark(0, 1)", x.mark(0, 1), 0);
        due(10, "none is known and none refused", x.status(0), 0);
        due(10, "mark(0, 4)", x.mark(0, 4), BAD);
        due(10, "mark(0, -1)", x.mark(0, -1), BAD);
        due(10, "mark(3, 0)", x.mark(3, 0), BAD);
        due(10, "mark(-1, 0)", x.mark(-1, 0), BAD);
        x.parent(2, NONE);
        due(10, "without PARENT", x.mark(2, 0), NONE);
    }

    private static void like() {
        NamelessBox x = new NamelessBox();
        x.person(20, 50, 1, 3);
        x.picture(30, 30);
        x.head(0, 3, 7, 10, 12);
        // MARKS: 0 alike 3, 1 not 1, 2 not known 2
        int[][] due = {{19, 0}, {20, 6}, {24, 6}, {25, 12}, {29, 12}, {30, 24}, {32, 24}, {33, 12}, {37, 12}, {38, 6},
            {50, 6}, {51, 0}, {99, 0}, {0, 0}};
        for (int[] d : due) {
            due(11, "like(0, 0, " + d[0] + ")", x.like(0, 0, d[0]), d[1]);
        }
        due(11, "a STRANGER", x.like(0, NONE, 0), 16);
        x.strange(9);
        due(11, "STRANGE 9", x.like(0, NONE, 99), 144);
        x.strange(0);
        due(11, "STRANGE 0", x.like(0, NONE, 99), 0);
        due(11, "year -1", x.like(0, 0, -1), BAD);
        due(11, "year 100", x.like(0, 0, 100), BAD);
        due(11, "no HEAD", x.like(1, 0, 30), BAD);
        due(11, "no PERSON", x.like(0, 1, 30), BAD);
        due(11, "no PERSON", x.like(0, -2, 30), BAD);
    }

    private static void truth() {
        int[] due = {6, 10, 9, 9, 10, 7};
        for (int kind = 0; kind < 6; kind++) {
            NamelessBox x = two();
            x.near(0, 4);
            x.near(1, 0);
            x.name(kind, 0, 0, 1);
            due(12, "kind " + kind, x.truth(0), due[kind]);
            due(12, "no NAME", x.truth(1), BAD);
            due(12, "no NAME", x.truth(-1), BAD);
        }
        NamelessBox x = one();
        x.name(5, 0, 0, 0);
        x.near(0, 0);
        due(12, "BACK of one who was not near", x.truth(0), 3);
    }

    private static void type() {
        NamelessBox x = new NamelessBox();
        due(13, "type(v, 0)", x.type(1, 0), BAD);
        due(13, "type(v, 9)", x.type(1, 9), BAD);
        due(13, "type(v, -1)", x.type(1, -1), BAD);
        due(13, "the lowest two", x.type(0x6e6561722031303bL, 2), 2);
        x.clear();
        due(13, "strange", x.type(0x737472616e6765L, 7), 7);
        due(13, " 9;", x.type(0x7f7f7f20393bL, 3), 10);
        due(13, "in that order", x.read(), 1);
        due(13, "as typed", x.strange(1), 9);
        x.clear();
        for (int i = 0; i < 37; i++) {
            x.type(-1, 8);
        }
        due(13, "296 and 5", x.type(0, 5), FULL);
        due(13, "nothing came", x.count(5), 296);
        due(13, "296 and 4", x.type(0, 4), 300);
        due(13, "full", x.type(0, 1), FULL);
        due(13, "BAD ahead of FULL", x.type(0, 0), BAD);
        due(13, "status(2)", x.status(2), 2);
    }

    private static void clear() {
        NamelessBox x = new NamelessBox();
        due(14, "clear()", x.clear(), 0);
        x.type(0, 8);
        due(14, "clear()", x.clear(), 8);
        due(14, "count(5)", x.count(5), 0);
        due(14, "clear()", x.clear(), 0);
    }

    private static void read() {
        String whole = "person 0 100 0 0;person 20 100 1 1;parent 1 0;near 1 4;picture 10 21;picture 30 30;"
                + "head 0 1 1 0 9;head 1 2 3 4 5;name 2 0 0 1;join 0 1 9;strange 7;";
        NamelessBox x = new NamelessBox();
        due(15, "all kinds of ITEMS", read(x, whole), 11);
        due(15, "digest", x.digest(), mix(2, 2, 2, 1, 1, whole.length(), 0, 100, 0, 0, -1, 2, 20, 100, 1, 1, 0, 4,
                10, 21, 30, 30, 0, 1, 1, 0, 9, 1, 2, 3, 4, 5, 2, 0, 0, 1, 0, 1, 9, 7, 0, 0, 1, 1));
        due(15, "again, anew", x.read(), 11);
        due(15, "count(0)", x.count(0), 2);
        due(15, "THE TEXT is kept", x.count(5), whole.length());
        due(15, "told anew", read(x, "person 1 2 3 4;"), 1);
        due(15, "STRANGE, too", x.strange(2), 1);
        due(15, "NEAR, too", x.near(0, 2), 2);
        due(15, "no PICTURES", x.count(1), 0);
        due(15, "refused", read(x, "strange 4;picture 1 1;picture 1 0;"), -1002);
        due(15, "nothing changes", x.strange(2), 2);
        due(15, "nothing changes", x.count(0), 1);
        due(15, "nothing was refused but so", x.status(0), 0);
        due(15, "FAULT", read(x, "strange 4;picture 1 1"), -31);
        due(15, "nothing changes", x.strange(2), 2);
        readFaults();
        readRefusals();
    }

    private static void readFaults() {
        due(15, "empty", readNew(""), 0);
        due(15, "blanks alone", readNew("   "), 0);
        due(15, "blanks between", readNew("  strange   4  ; near"), -31);
        due(15, "blanks between", readNew("  strange   4  ;  "), 1);
        due(15, "no blanks", readNew("picture1 2;strange4;"), 2);
        due(15, "leading 0s", readNew("picture 007 010;"), 1);
        due(15, "a word that is none", readNew("strange 4;stranger 4;"), -20);
        due(15, "a word that ends early", readNew("strang"), -10);
        due(15, "a word with a capital", readNew("Strange 4;"), -10);
        due(15, "a capital within", readNew("strangE 4;"), -10);
        due(15, "ends in a word", readNew("strange"), -17);
        due(15, "ends behind a blank", readNew("strange "), -18);
        due(15, "ends ahead of ;", readNew("strange 4"), -19);
        due(15, "four figures", readNew("strange 0004;"), -18);
        due(15, "four figures at last", readNew("picture 1 1234"), -20);
        due(15, "one number too many", readNew("strange 4 5;"), -20);
        due(15, "one too few", readNew("picture 4;"), -19);
        due(15, "a word for a number", readNew("strange near;"), -18);
        due(15, "a number for a word", readNew("4;"), -10);
        due(15, "; for a word", readNew("strange 4;;"), -20);
        due(15, "a byte that begins none", readNew("strange -4;"), -18);
        due(15, "a tab", readNew("strange\t4;"), -17);
        due(15, "byte 255", readNew("strange 4\u00ff;"), -19);
        due(15, "byte 0", readNew("\u0000"), -10);
        due(15, "a FAULT ahead of what is refused", readNew("strange 99;near"), -25);
    }

    private static void readRefusals() {
        String person = "person 5 9 0 0;";
        due(15, "FULL", readNew(person.repeat(6)), -1005);
        due(15, "not yet there", readNew("near 0 1;" + person), -1000);
        due(15, "PARENT", readNew(person + person + "parent 1 0;"), -1002);
        due(15, "no PARENT to tell", readNew(person + "parent 0 1;"), -1001);
        due(15, "name", readNew(person + "picture 9 9;head 0 0 0 0 0;name 6 0 0 0;"), -1003);
        due(15, "join", readNew(person + "picture 9 9;head 0 0 0 0 0;head 0 0 0 0 0;join 0 1 1;"), -1004);
        due(15, "999", readNew("strange 999;"), -1000);
    }

    private static void who() {
        NamelessBox x = one();
        share(16, "who(0, 0)", x.who(0, 0), x, 2, 3);
        share(16, "who(0, NONE)", x.who(0, NONE), x, 1, 3);
        due(16, "no PERSON", x.who(0, 1), BAD);
        due(16, "5 is none", x.who(0, 5), BAD);
        due(16, "-2", x.who(0, -2), BAD);
        due(16, "no HEAD", x.who(1, 0), BAD);
        due(16, "no HEAD", x.who(-1, 0), BAD);
        fraction(16, "refusals", x, 1, 3);
        // NAMES: by TRUTH, by the rest of 10
        int[][] due = {{3, 4}, {1, 1}, {14, 17}, {14, 17}, {0, 1}, {2, 3}};
        for (int kind = 0; kind < 6; kind++) {
            NamelessBox y = one();
            y.name(kind, 0, 0, 0);
            share(16, "kind " + kind, y.who(0, 0), y, due[kind][0], due[kind][1]);
        }
        NamelessBox z = two();
        share(16, "never twice on a PICTURE", z.who(0, 0), z, 6, 17);
        z.name(3, 0, 0, 1);
        // 0: 24 x 7, 1: 24 x 7, a STRANGER: 20 x 3
        share(16, "EITHER, p", z.who(0, 0), z, 14, 33);
        share(16, "EITHER, q", z.who(0, 1), z, 14, 33);
        share(16, "EITHER, a STRANGER", z.who(0, NONE), z, 5, 33);
        due(16, "ALL is 0", never().who(0, 0), NO);
        NamelessBox w = apart();
        w.join(0, 1, 9);
        // both 16 x 9, one or the other 8, none 4
        share(16, "JOIN", w.who(0, 0), w, 38, 41);
    }

    private static void named() {
        NamelessBox x = two();
        due(17, "of like ones the least", x.named(1), 0);
        fraction(17, "named", x, 6, 17);
        x.strange(9);
        due(17, "a STRANGER", x.named(0), STRANGER);
        NamelessBox y = one();
        y.strange(2);
        due(17, "a STRANGER behind all", y.named(0), 0);
        fraction(17, "named", y, 1, 2);
        due(17, "no HEAD", y.named(1), BAD);
        due(17, "no HEAD", y.named(-1), BAD);
        due(17, "ALL is 0", never().named(0), NO);
        NamelessBox z = new NamelessBox();
        z.picture(1, 1);
        z.head(0, 0, 0, 0, 0);
        due(17, "without PEOPLE", z.named(0), STRANGER);
        fraction(17, "named", z, 1, 1);
    }

    private static void best() {
        NamelessBox x = two();
        due(18, "the first of like ones", x.best(0), 0);
        due(18, "the first of like ones", x.best(1), 1);
        x.strange(4);
        // both 16, one 32, none 64
        due(18, "STRANGERS", x.best(0), STRANGER);
        due(18, "STRANGERS", x.best(1), STRANGER);
        x.strange(2);
        due(18, "all alike: a STRANGER behind all", x.best(0), 0);
        due(18, "all alike: a STRANGER behind all", x.best(1), 1);
        fraction(18, "best", x, 0, 1);
        due(18, "no HEAD", x.best(2), BAD);
        due(18, "no HEAD", x.best(-1), BAD);
        due(18, "ALL is 0", never().best(0), NO);
    }

    private static void all() {
        NamelessBox x = new NamelessBox();
        share(19, "nothing there", x.all(), x, 1, 1);
        x.picture(1, 3);
        x.picture(1, 5);
        share(19, "years alone", x.all(), x, 15, 1);
        NamelessBox y = years();
        share(19, "years", y.all(), y, 14, 1);
        y.picture(50, 50);
        y.picture(50, 61);
        share(19, "PICTURES without HEADS", y.all(), y, 14 * 12, 1);
        NamelessBox z = two();
        share(19, "two", z.all(), z, 68, 1);
        NamelessBox n = never();
        n.who(0, 0);
        due(19, "ALL is 0", n.all(), NO);
        due(19, "status(1)", n.status(1), 2);
        fraction(19, "NO", n, 0, 1);
        greatest();
        crowded();
    }

    /** The greatest one: 12 years to the 4th, 324 and 288 by HEAD, NAMES and JOINS that bring 10 each. */
    private static void greatest() {
        NamelessBox x = new NamelessBox();
        x.person(0, 100, 0, 15);
        for (int p = 0; p < 4; p++) {
            x.picture(p, p + 11);
        }
        for (int h = 0; h < 6; h++) {
            x.head(Math.min(h, 3), 0, 15, 0, 99);
        }
        x.strange(9);
        for (int n = 0; n < 4; n++) {
            x.name(n == 3 ? 4 : 1, n == 3 ? 4 : n, 0, 0);
        }
        x.join(0, 1, 10);
        x.join(0, 2, 10);
        x.join(1, 2, 10);
        x.join(3, 0, 10);
        // HEADS 0 .. 3 are the PERSON, 4 and 5 with 3 on one PICTURE are STRANGERS
        x.all();
        BigInteger due = BigInteger.TEN.pow(8).multiply(BigInteger.valueOf(12).pow(4))
                .multiply(BigInteger.valueOf(324).pow(4)).multiply(BigInteger.valueOf(288).pow(2));
        due(19, "the greatest", whole(x, 0).equals(due) ? 1 : 0, 1);
        due(34, "limbs above", x.sign(1), 4);
        due(35, "limb(0, 3)", x.limb(0, 3), due.shiftRight(90).intValue());
        due(35, "limb(0, 4)", x.limb(0, 4), NONE);
    }

    /** Six on one PICTURE, and all NAMES of the last one. */
    private static void crowded() {
        NamelessBox x = new NamelessBox();
        x.person(0, 100, 0, 15);
        x.picture(0, 11);
        for (int h = 0; h < 6; h++) {
            x.head(0, 0, 15, 0, 99);
        }
        x.strange(9);
        for (int n = 0; n < 4; n++) {
            x.name(1, 5, 0, 0);
        }
        x.all();
        BigInteger due = BigInteger.TEN.pow(4).multiply(BigInteger.valueOf(12 * 324)).multiply(BigInteger.valueOf(288).pow(5));
        due(19, "six on one PICTURE", whole(x, 0).equals(due) ? 1 : 0, 1);
    }

    private static void sure() {
        NamelessBox x = one();
        due(20, "sure(66)", x.sure(66), 1);
        due(20, "sure(67)", x.sure(67), 0);
        due(20, "sure(0)", x.sure(0), 1);
        due(20, "sure(-1)", x.sure(-1), BAD);
        due(20, "sure(101)", x.sure(101), BAD);
        x.strange(2);
        due(20, "just so many", x.sure(50), 1);
        due(20, "one more", x.sure(51), 0);
        x.name(1, 0, 0, 0);
        x.head(0, 0, 0, 10, 10);
        due(20, "both, the other is a STRANGER then", x.sure(100), 3);
        fraction(20, "sure", x, 0, 1);
        due(20, "ALL is 0", never().sure(0), NO);
        due(20, "BAD ahead of NO", never().sure(101), BAD);
        due(20, "no HEADS", new NamelessBox().sure(0), 0);
    }

    private static void falls() {
        NamelessBox x = one();
        due(21, "no NAME", x.falls(50, 0), BAD);
        x.name(1, 0, 0, 0);
        due(21, "not SURE without", x.falls(67, 0), 1);
        due(21, "SURE without", x.falls(66, 0), 0);
        due(21, "no NAME", x.falls(66, 1), BAD);
        due(21, "no NAME", x.falls(66, -1), BAD);
        due(21, "c -1", x.falls(-1, 0), BAD);
        due(21, "c 101", x.falls(101, 0), BAD);
        NamelessBox y = one();
        y.name(4, 0, 0, 0);
        due(21, "another NAMED", y.falls(10, 0), 1);
        y.name(4, 0, 0, 0);
        due(21, "the other NAME stays", y.falls(10, 0), 0);
        NamelessBox z = two();
        z.name(1, 0, 1, 1);
        // with it HEAD 1 is 0 by 16 of 24; without: 24 of 68
        due(21, "falls with another HEAD's NAME", z.falls(60, 0), 3);
        due(21, "by 30", z.falls(30, 0), 1);
        NamelessBox n = never();
        due(21, "ALL is 0 with it", n.falls(50, 0), NO);
        due(21, "status(1)", n.status(1), 1);
    }

    private static void same() {
        NamelessBox x = apart();
        // both 16, one 8, the other 8, none 4
        share(22, "same(0, 1)", x.same(0, 1), x, 4, 9);
        share(22, "same(1, 0)", x.same(1, 0), x, 4, 9);
        x.join(0, 1, 9);
        share(22, "JOIN", x.same(0, 1), x, 36, 41);
        x.join(1, 0, 0);
        share(22, "two STRANGERS are not the same PERSON", x.same(0, 1), x, 0, 1);
        due(22, "alike", x.same(0, 0), BAD);
        due(22, "no HEAD", x.same(0, 2), BAD);
        due(22, "no HEAD", x.same(-1, 0), BAD);
        NamelessBox y = two();
        share(22, "on one PICTURE", y.same(0, 1), y, 0, 1);
        NamelessBox z = never();
        z.head(0, 0, 0, 0, 0);
        due(22, "ALL is 0", z.same(0, 1), NO);
    }

    private static void noneOf() {
        NamelessBox x = two();
        share(23, "noneOf(0)", x.noneOf(0), x, 5, 17);
        NamelessBox y = apart();
        share(23, "on neither PICTURE", y.noneOf(0), y, 1, 9);
        due(23, "nobody", y.noneOf(1), BAD);
        due(23, "nobody", y.noneOf(-1), BAD);
        due(23, "ALL is 0", never().noneOf(0), NO);
        NamelessBox z = new NamelessBox();
        z.person(1, 1, 0, 0);
        share(23, "no HEADS", z.noneOf(0), z, 1, 1);
    }

    private static void friend() {
        NamelessBox x = two();
        share(24, "friend(0)", x.friend(0), x, 4, 17);
        x.head(0, 0, 0, 10, 10);
        // 0 and 1 with one 6 x 32, 0 with two 3 x 16, 1 with two 3 x 16, none 8: 192 + 2 x 48 of 296
        share(24, "friend(0)", x.friend(0), x, 36, 37);
        NamelessBox y = apart();
        share(24, "on another PICTURE", y.friend(0), y, 0, 1);
        due(24, "nobody", y.friend(1), BAD);
        due(24, "nobody", y.friend(-1), BAD);
        due(24, "ALL is 0", never().friend(0), NO);
    }

    private static void of() {
        NamelessBox x = two();
        share(25, "of(1, 0)", x.of(1, 0), x, 2, 17);
        share(25, "of(0, 1)", x.of(0, 1), x, 2, 17);
        NamelessBox y = apart();
        share(25, "on another PICTURE", y.of(0, 0), y, 0, 1);
        due(25, "no HEAD", y.of(2, 0), BAD);
        due(25, "nobody", y.of(0, 1), BAD);
        due(25, "a STRANGER", y.of(0, -1), BAD);
        due(25, "ALL is 0", never().of(0, 0), NO);
    }

    private static void when() {
        NamelessBox x = years();
        share(26, "when(0, 10)", x.when(0, 10), x, 3, 7);
        share(26, "when(0, 11)", x.when(0, 11), x, 2, 7);
        share(26, "when(0, 12)", x.when(0, 12), x, 2, 7);
        due(26, "not of its years", x.when(0, 9), BAD);
        due(26, "not of its years", x.when(0, 13), BAD);
        due(26, "no PICTURE", x.when(1, 10), BAD);
        due(26, "no PICTURE", x.when(-1, 10), BAD);
        x.picture(50, 53);
        share(26, "without HEADS", x.when(1, 53), x, 1, 4);
        share(26, "beside another", x.when(0, 10), x, 3, 7);
        x.strange(0);
        x.person(12, 100, 0, 0);
        x.name(1, 0, 1, 1);
        share(26, "not born", x.when(0, 11), x, 0, 1);
        share(26, "born", x.when(0, 12), x, 1, 1);
        due(26, "ALL is 0", never().when(0, 10), NO);
        due(26, "BAD ahead of NO", never().when(0, 11), BAD);
    }

    private static void span() {
        NamelessBox x = years();
        due(27, "span(0, 0)", x.span(0, 0), 10);
        due(27, "span(0, 1)", x.span(0, 1), 12);
        x.person(11, 11, 0, 0);
        x.name(1, 0, 1, 1);
        due(27, "one year alone", x.span(0, 0), 11);
        due(27, "one year alone", x.span(0, 1), 11);
        due(27, "what 2", x.span(0, 2), BAD);
        due(27, "what -1", x.span(0, -1), BAD);
        due(27, "no PICTURE", x.span(1, 0), BAD);
        due(27, "ALL is 0", never().span(0, 0), NO);
        x.picture(70, 80);
        due(27, "without HEADS", x.span(1, 0), 70);
        due(27, "without HEADS", x.span(1, 1), 80);
        NamelessBox y = years();
        y.strange(0);
        y.person(12, 100, 0, 0);
        y.name(1, 0, 1, 1);
        due(27, "the last year alone", y.span(0, 0), 12);
        NamelessBox z = new NamelessBox();
        z.person(0, 10, 0, 0);
        z.picture(10, 12);
        z.head(0, 0, 0, 10, 10);
        z.strange(0);
        due(27, "the first year alone", z.span(0, 1), 10);
        fraction(27, "span", x, 0, 1);
    }

    private static void ahead() {
        NamelessBox x = years();
        x.picture(11, 11);
        share(28, "ahead(0, 1)", x.ahead(0, 1), x, 3, 7);
        share(28, "ahead(1, 0)", x.ahead(1, 0), x, 2, 7);
        x.picture(10, 11);
        // 10 or 11 each by half: 0 ahead of 2: 6 x 1 of 28
        share(28, "ahead(0, 2)", x.ahead(0, 2), x, 3, 14);
        share(28, "none has HEADS", x.ahead(2, 1), x, 1, 2);
        share(28, "never", x.ahead(1, 2), x, 0, 1);
        due(28, "alike", x.ahead(1, 1), BAD);
        due(28, "no PICTURE", x.ahead(0, 3), BAD);
        due(28, "no PICTURE", x.ahead(-1, 0), BAD);
        NamelessBox y = never();
        y.picture(1, 1);
        due(28, "ALL is 0", y.ahead(0, 1), NO);
        due(28, "BAD ahead of NO", y.ahead(1, 1), BAD);
    }

    private static void parts() {
        NamelessBox x = new NamelessBox();
        x.person(0, 100, 12, 13);
        x.person(20, 100, 0, 8);
        x.person(20, 100, 3, 3);
        due(29, "the last one alone", x.parts(0, 1), 3);
        due(29, "of both known and unlike", x.parts(0, 2), 0);
        due(29, "nothing of both known", x.parts(1, 2), NONE);
        due(29, "NONE is not refused", x.status(0), 0);
        x.parent(1, 0);
        due(29, "by a PARENT", x.parts(1, 2), 0);
        due(29, "alike", x.parts(1, 1), BAD);
        due(29, "nobody", x.parts(1, 3), BAD);
        due(29, "nobody", x.parts(-1, 1), BAD);
    }

    private static void doubt() {
        NamelessBox x = two();
        due(30, "of like ones the least", x.doubt(0, 1), 0);
        x.name(1, 1, 0, 0);
        due(30, "nowhere together", x.doubt(0, 1), NONE);
        x.picture(10, 10);
        x.head(1, 0, 0, 10, 10);
        due(30, "a later HEAD", x.doubt(1, 0), 2);
        due(30, "alike", x.doubt(1, 1), BAD);
        due(30, "nobody", x.doubt(0, 2), BAD);
        due(30, "nobody", x.doubt(-1, 0), BAD);
        fraction(30, "doubt", x, 0, 1);
        x.name(4, 1, 0, 0);
        due(30, "ALL is 0", x.doubt(0, 1), NO);
        NamelessBox y = new NamelessBox();
        y.person(0, 0, 0, 0);
        y.person(0, 0, 0, 0);
        due(30, "no HEADS", y.doubt(0, 1), NONE);
    }

    private static void right() {
        NamelessBox x = two();
        share(31, "right()", x.right(), x, 12, 17);
        NamelessBox y = new NamelessBox();
        y.all();
        share(31, "no HEADS", y.right(), y, 0, 1);
        due(31, "ALL is 0", never().right(), NO);
    }

    private static void ask() {
        NamelessBox x = one();
        // she says 0: 28, 8; a STRANGER: 12, 12: 40 of 60, as now
        share(32, "ask(0)", x.ask(0), x, 0, 1);
        x.near(0, 4);
        // 36, 8; 4, 12: 48 of 60, now 40
        share(32, "NEAR 4", x.ask(0), x, 2, 15);
        x.strange(2);
        // 36, 16; 4, 24: 60 of 80, now 40
        share(32, "STRANGE 2", x.ask(0), x, 1, 4);
        due(32, "no HEAD", x.ask(1), BAD);
        due(32, "no HEAD", x.ask(-1), BAD);
        due(32, "ALL is 0", never().ask(0), NO);
        NamelessBox y = new NamelessBox();
        y.picture(1, 1);
        y.head(0, 0, 0, 0, 0);
        y.all();
        share(32, "without PEOPLE", y.ask(0), y, 0, 1);
        NamelessBox z = two();
        // HEAD 0 asked, by 2 x 10 x 68: says 0: HEAD 0 by 24 x 14, HEAD 1 by 1's 16 x 14 + 8 x 4 = 256; says 1: alike;
        // says a STRANGER: HEAD 0 by 20 x 12 = 240, HEAD 1 by 0's 16 x 3 + 8 x 12 = 144;
        // 336 + 256 + 336 + 256 + 240 + 144 = 1568, now 24 x 2 x 20 = 960
        share(32, "two", z.ask(0), z, 38, 85);
    }

    private static void next() {
        NamelessBox x = new NamelessBox();
        due(33, "no HEADS", x.next(), NONE);
        due(33, "it is not refused", x.status(0) + x.status(1), 0);
        NamelessBox y = two();
        due(33, "of like ones the least", y.next(), 0);
        y.name(1, 0, 0, 0);
        due(33, "not one who is known", y.next(), 1);
        NamelessBox z = one();
        due(33, "worth nothing", z.next(), 0);
        fraction(33, "next", z, 0, 1);
        z.near(0, 4);
        z.next();
        fraction(33, "next", z, 2, 15);
        due(33, "ALL is 0", never().next(), NO);
        NamelessBox w = new NamelessBox();
        w.picture(1, 1);
        w.head(0, 0, 0, 0, 0);
        w.head(0, 0, 0, 0, 0);
        w.all();
        due(33, "without PEOPLE", w.next(), 0);
        fraction(33, "next", w, 0, 1);
    }

    private static void sign() {
        NamelessBox x = one();
        due(34, "sign(0)", x.sign(0), 0);
        due(34, "sign(1)", x.sign(1), 0);
        due(34, "sign(2)", x.sign(2), 1);
        x.who(0, 0);
        due(34, "sign(0)", x.sign(0), 1);
        due(34, "sign(1)", x.sign(1), 1);
        due(34, "sign(3)", x.sign(3), BAD);
        due(34, "sign(-1)", x.sign(-1), BAD);
    }

    private static void limb() {
        NamelessBox x = one();
        due(35, "0 has none", x.limb(0, 0), NONE);
        due(35, "1 below", x.limb(1, 0), 1);
        x.who(0, 0);
        due(35, "above", x.limb(0, 0), 2);
        due(35, "below", x.limb(1, 0), 3);
        due(35, "not so many", x.limb(1, 1), NONE);
        due(35, "not so many", x.limb(1, BIG), NONE);
        due(35, "not refused", x.status(0), 0);
        due(35, "i -1", x.limb(0, -1), BAD);
        due(35, "which 2", x.limb(2, 0), BAD);
        due(35, "which -1", x.limb(-1, 0), BAD);
    }

    private static void images() {
        NamelessBox x = one();
        x.who(0, 0);
        x.strange(7);
        due(36, "image(0)", x.image(0), 1);
        due(36, "image(2)", x.image(2), BAD);
        due(36, "image(-1)", x.image(-1), BAD);
        due(37, "none was kept", x.from(1), NO);
        due(37, "from(2)", x.from(2), BAD);
        due(37, "from(-1)", x.from(-1), BAD);
        x.person(5, 5, 0, 0);
        x.near(0, 4);
        x.name(0, 0, 1, 1);
        x.picture(1, 1);
        x.head(1, 0, 0, 0, 0);
        x.join(0, 1, 3);
        x.strange(0);
        x.image(1);
        x.type(1, 3);
        x.all();
        due(37, "from(0)", x.from(0), 1);
        due(37, "PEOPLE", x.count(0), 1);
        due(37, "PICTURES", x.count(1), 1);
        due(37, "HEADS", x.count(2), 1);
        due(37, "NAMES", x.count(3), 0);
        due(37, "JOINS", x.count(4), 0);
        due(37, "THE TEXT is not kept", x.count(5), 3);
        due(37, "STATUS is not kept", x.status(0), 4);
        due(37, "NEAR", x.near(0, 3), 2);
        due(37, "STRANGE", x.strange(1), 7);
        NamelessBox y = one();
        y.image(1);
        y.strange(9);
        y.all();
        y.from(1);
        fraction(37, "THE FRACTION is not kept", y, 22, 1);
        share(37, "WAYS are those of the IMAGE", y.who(0, 0), y, 2, 3);
        y.near(0, 0);
        due(36, "an IMAGE stays as it was", y.from(1), 1);
        due(36, "an IMAGE stays as it was", y.near(0, 0), 2);
        due(37, "from(1)", x.from(1), 1);
        due(37, "JOINS", x.count(4), 1);
        due(37, "STRANGE", x.strange(1), 0);
        due(37, "NEAR", x.near(0, 4), 4);
        due(36, "over the first", x.image(0), 1);
        x.person(1, 1, 0, 0);
        x.from(0);
        due(36, "the later one", x.count(0), 2);
    }

    private static void status() {
        NamelessBox x = never();
        due(38, "status(0)", x.status(0), 0);
        due(38, "status(3)", x.status(3), -1);
        due(38, "status(-1)", x.status(-1), -1);
        due(38, "these count as BAD", x.status(0), 2);
        x.parent(9, 9);
        due(38, "-10 counts as BAD", x.status(0), 3);
        x.all();
        x.from(0);
        due(38, "NO", x.status(1), 2);
        for (int p = 0; p < 6; p++) {
            x.person(1, 1, 1, 1);
        }
        due(38, "FULL", x.status(2), 2);
        x.type(59, 1);
        x.read();
        due(38, "a FAULT is none", x.status(0) + x.status(1) + x.status(2), 7);
    }

    /** Every call that may be refused as BAD is, and each one counts. */
    private static void badStatus() {
        NamelessBox x = never();
        int[] answers = {x.person(-1, 0, 0, 0), x.near(9, 0), x.picture(-1, 0), x.head(9, 0, 0, 0, 0),
            x.name(9, 0, 0, 0), x.join(9, 0, 0), x.strange(-1), x.mark(9, 0), x.like(9, 0, 0), x.truth(9), x.type(0, 0),
            x.who(9, 0), x.named(9), x.best(9), x.sure(-1), x.falls(-1, 0), x.same(0, 0), x.noneOf(9), x.friend(9),
            x.of(9, 0), x.when(9, 0), x.span(9, 0), x.ahead(0, 0), x.parts(0, 0), x.doubt(0, 0), x.ask(9), x.sign(9),
            x.limb(9, 0), x.image(9), x.from(9), x.count(9)};
        for (int i = 0; i < answers.length; i++) {
            due(38, "the " + i + "th of those that are BAD", answers[i], BAD);
        }
        due(38, "all of these", x.status(0), answers.length);
        due(38, "no other", x.status(1) + x.status(2), 0);
    }

    /** Every call that may be refused as NO is, and each one counts and leaves THE FRACTION. */
    private static void noStatus() {
        NamelessBox x = two();
        x.picture(3, 3);
        x.all();
        x.name(1, 0, 0, 0);
        x.name(4, 0, 0, 0);
        int[] answers = {x.who(0, 0), x.named(0), x.best(0), x.all(), x.sure(0), x.falls(0, 0), x.same(0, 1), x.noneOf(0),
            x.friend(0), x.of(0, 0), x.when(0, 10), x.span(0, 0), x.ahead(0, 1), x.doubt(0, 1), x.right(), x.ask(0),
            x.next(), x.from(0)};
        for (int i = 0; i < answers.length; i++) {
            due(38, "the " + i + "th of those that are NO", answers[i], NO);
        }
        due(38, "all of these", x.status(1), answers.length);
        due(38, "no other", x.status(0) + x.status(2), 0);
        fraction(38, "NO", x, 68, 1);
    }

    private static void count() {
        NamelessBox x = apart();
        x.name(0, 0, 0, 0);
        x.join(0, 1, 1);
        x.join(0, 1, 1);
        x.join(0, 1, 1);
        x.type(0, 8);
        int[] due = {1, 2, 2, 1, 3, 8};
        for (int what = 0; what < 6; what++) {
            due(39, "count(" + what + ")", x.count(what), due[what]);
        }
        due(39, "count(6)", x.count(6), BAD);
        due(39, "count(-1)", x.count(-1), BAD);
    }

    private static void digest() {
        NamelessBox x = new NamelessBox();
        due(40, "of a new one", x.digest(), mix(0, 0, 0, 0, 0, 0, 1, 0, 0, 1, 1));
        x.person(1, 60, 3, 4);
        x.person(9, 100, 15, 8);
        x.parent(1, 0);
        x.near(1, 4);
        x.picture(10, 20);
        x.picture(30, 31);
        x.head(0, 1, 2, 3, 4);
        x.head(1, 5, 6, 7, 8);
        x.name(5, 1, 0, 1);
        x.join(1, 0, 6);
        x.strange(3);
        x.type(7, 2);
        x.when(1, 30);
        long above = x.limb(0, 0);
        long below = x.limb(1, 0);
        due(40, "of all", x.digest(), mix(2, 2, 2, 1, 1, 2, 1, 60, 3, 4, -1, 2, 9, 100, 15, 8, 0, 4, 10, 20, 30, 31,
                0, 1, 2, 3, 4, 1, 5, 6, 7, 8, 5, 1, 0, 1, 1, 0, 6, 3, 1, 1, 1, above, below));
        long was = x.digest();
        x.who(9, 9);
        due(40, "a refusal changes nothing in it", x.digest(), was);
    }

    public static void main(String[] args) {
        aNewObject();
        person();
        parent();
        near();
        picture();
        head();
        name();
        join();
        strange();
        mark();
        like();
        truth();
        type();
        clear();
        read();
        who();
        named();
        best();
        all();
        sure();
        falls();
        same();
        noneOf();
        friend();
        of();
        when();
        span();
        ahead();
        parts();
        doubt();
        right();
        ask();
        next();
        sign();
        limb();
        images();
        status();
        badStatus();
        noStatus();
        count();
        digest();
        System.out.println(checks - wrong + " of " + checks + " answers are as due");
        if (wrong != 0) {
            System.exit(1);
        }
    }
}
