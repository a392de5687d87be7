/** The boundary cases of promises 26 to 33: when a PICTURE was taken, what parts two, what to ask the aunt. */
public final class WhenEdgesTest {
    private static final int NONE = Edges.NONE, BAD = Edges.BAD;

    private static NamelessBox pictures(int... years) {
        NamelessBox x = new NamelessBox();
        for (int i = 0; i + 1 < years.length; i += 2) {
            x.picture(years[i], years[i + 1]);
        }
        return x;
    }

    /** A PICTURE of 0 .. 11 whose HEAD is one who lived born .. died: no STRANGERS. */
    private static NamelessBox lived(int born, int died) {
        NamelessBox x = new NamelessBox();
        x.person(born, died, 0, 0);
        x.strange(0);
        x.picture(0, 11);
        x.head(0, 0, 0, 0, 99);
        return x;
    }

    private static NamelessBox near(NamelessBox x, int person, int v) {
        x.near(person, v);
        return x;
    }

    private static NamelessBox named(NamelessBox x, int kind, int head, int p) {
        x.name(kind, head, p, p);
        return x;
    }

    private static void when() {
        Edges.about(26, "a PICTURE that is there");
        Edges.in(Edges::some);
        Edges.taken("the last", x -> x.when(1, 60), 1);
        Edges.badOutside("when", 0, 1, v -> x -> x.when(v, 60));
        Edges.about(26, "not one of its years, too");
        Edges.taken("its first", x -> x.when(0, 40), 1);
        Edges.taken("its last", x -> x.when(0, 43), 1);
        Edges.badOutside("in", 40, 43, v -> x -> x.when(0, v));
        Edges.badOutside("in", 60, 60, v -> x -> x.when(1, v));
        Edges.in(() -> pictures(0, 11, 88, 99));
        Edges.share("the year 0", x -> x.when(0, 0), 1, 12);
        Edges.share("the year 11", x -> x.when(0, 11), 1, 12);
        Edges.badOutside("in", 0, 11, v -> x -> x.when(0, v));
        Edges.share("the year 88", x -> x.when(1, 88), 1, 12);
        Edges.share("the year 99", x -> x.when(1, 99), 1, 12);
        Edges.badOutside("in", 88, 99, v -> x -> x.when(1, v));
        Edges.in(Edges::full);
        Edges.badOutside("when", 0, 3, v -> x -> x.when(v, 60));
        Edges.about(26, "the share: 0 by 1, if he was not born or dead, 1 by 1, if it can be no other year");
        Edges.in(() -> lived(5, 7));
        Edges.share("a year too early", x -> x.when(0, 4), 0, 1);
        Edges.share("the first", x -> x.when(0, 5), 1, 3);
        Edges.share("the last", x -> x.when(0, 7), 1, 3);
        Edges.share("a year too late", x -> x.when(0, 8), 0, 1);
        Edges.in(() -> lived(11, 11));
        Edges.share("the last year alone", x -> x.when(0, 11), 1, 1);
        Edges.share("the year ahead of it", x -> x.when(0, 10), 0, 1);
        Edges.in(Edges::years);
        Edges.share("the first of 4, 2, 2 and 2, 2, 2", x -> x.when(0, 10), 3, 7);
        Edges.share("the last of these", x -> x.when(0, 12), 2, 7);
        Edges.in(() -> pictures(7, 7));
        Edges.share("one year", x -> x.when(0, 7), 1, 1);
    }

    private static void span() {
        Edges.about(27, "a PICTURE that is there");
        Edges.in(Edges::some);
        Edges.answered("the last", x -> x.span(1, 0), 60);
        Edges.badOutside("span of", 0, 1, v -> x -> x.span(v, 0));
        Edges.about(27, "the first (0), the last (1)");
        Edges.answered("the first", x -> x.span(0, 0), 40);
        Edges.answered("the last", x -> x.span(0, 1), 43);
        Edges.badOutside("what", 0, 1, v -> x -> x.span(0, v));
        Edges.in(Edges::full);
        Edges.badOutside("span of", 0, 3, v -> x -> x.span(v, 0));
        Edges.about(27, "the first and the last year with a share");
        int[][] lives = {{0, 100, 0, 11}, {0, 11, 0, 11}, {1, 10, 1, 10}, {0, 0, 0, 0}, {11, 11, 11, 11}, {11, 100, 11, 11},
            {10, 100, 10, 11}, {0, 1, 0, 1}, {5, 5, 5, 5}};
        for (int[] l : lives) {
            Edges.in(() -> lived(l[0], l[1]));
            Edges.answered("lived " + l[0] + " .. " + l[1] + ", the first", x -> x.span(0, 0), l[2]);
            Edges.answered("lived " + l[0] + " .. " + l[1] + ", the last", x -> x.span(0, 1), l[3]);
        }
        Edges.in(() -> pictures(99, 99, 0, 0, 88, 99, 0, 11));
        Edges.answered("99 alone", x -> x.span(0, 0), 99);
        Edges.answered("99 alone", x -> x.span(0, 1), 99);
        Edges.answered("0 alone", x -> x.span(1, 0), 0);
        Edges.answered("0 alone", x -> x.span(1, 1), 0);
        Edges.answered("88 .. 99", x -> x.span(2, 0), 88);
        Edges.answered("88 .. 99", x -> x.span(2, 1), 99);
        Edges.answered("0 .. 11", x -> x.span(3, 0), 0);
        Edges.answered("0 .. 11", x -> x.span(3, 1), 11);
        spanByTwo();
    }

    /** Years of two HEADS' lives meet in one; a share may hang on a NAME of another PICTURE's HEAD. */
    private static void spanByTwo() {
        Edges.in(() -> {
            NamelessBox x = lived(0, 5);
            x.person(5, 100, 0, 0);
            x.head(0, 0, 0, 0, 99);
            return x;
        });
        Edges.answered("the only year of both", x -> x.span(0, 0), 5);
        Edges.answered("the only year of both", x -> x.span(0, 1), 5);
        Edges.in(() -> {
            NamelessBox x = lived(3, 4);
            x.person(0, 100, 0, 0);
            x.picture(4, 4);
            x.head(1, 0, 0, 0, 99);
            x.join(0, 1, 10);
            x.name(1, 1, 0, 0);
            return x;
        });
        Edges.answered("by a JOIN with one who is SURE", x -> x.span(0, 0), 3);
        Edges.answered("by a JOIN with one who is SURE", x -> x.span(0, 1), 4);
    }

    private static void ahead() {
        Edges.about(28, "two PICTURES that are there");
        Edges.in(Edges::some);
        Edges.share("first and last", x -> x.ahead(0, 1), 1, 1);
        Edges.badOutside("a", 0, 1, v -> x -> x.ahead(v, 1));
        Edges.badOutside("b", 0, 1, v -> x -> x.ahead(1, v));
        Edges.about(28, "alike, too");
        Edges.refused("0, 0", x -> x.ahead(0, 0), BAD);
        Edges.refused("1, 1", x -> x.ahead(1, 1), BAD);
        Edges.in(Edges::full);
        Edges.taken("the last two", x -> x.ahead(2, 3), 1);
        Edges.badOutside("a", 0, 3, v -> x -> x.ahead(v, 1));
        Edges.badOutside("b", 0, 3, v -> x -> x.ahead(1, v));
        Edges.refused("3, 3", x -> x.ahead(3, 3), BAD);
        Edges.about(28, "an earlier year: the same one is not");
        Edges.in(() -> pictures(10, 10, 10, 10, 11, 11, 9, 9));
        Edges.share("the same year", x -> x.ahead(0, 1), 0, 1);
        Edges.share("a year ahead", x -> x.ahead(0, 2), 1, 1);
        Edges.share("a year behind", x -> x.ahead(0, 3), 0, 1);
        Edges.in(() -> pictures(0, 0, 99, 99));
        Edges.share("as far as it goes", x -> x.ahead(0, 1), 1, 1);
        Edges.share("as far as it goes", x -> x.ahead(1, 0), 0, 1);
        Edges.in(() -> pictures(10, 11, 11, 12, 0, 11, 0, 11));
        Edges.share("10, 11 ahead of 11, 12: three of four", x -> x.ahead(0, 1), 3, 4);
        Edges.share("the other way: none", x -> x.ahead(1, 0), 0, 1);
        Edges.share("twelve years both: 66 of 144", x -> x.ahead(2, 3), 11, 24);
        Edges.in(() -> {
            NamelessBox x = lived(5, 6);
            x.picture(6, 6);
            return x;
        });
        Edges.share("5 is, 6 is not ahead of 6", x -> x.ahead(0, 1), 1, 2);
        Edges.share("6 is not ahead of 5 or 6", x -> x.ahead(1, 0), 0, 1);
        Edges.about(28, "HEADS of both PICTURES, whichever came last");
        // 5 or 6, and 6 or 7 (dead ahead of 8), of no STRANGERS
        Edges.in(() -> {
            NamelessBox x = lived(5, 6);
            x.person(6, 7, 0, 0);
            x.picture(0, 11);
            x.head(1, 0, 0, 0, 99);
            x.name(1, 0, 0, 0);
            x.name(1, 1, 1, 1);
            return x;
        });
        Edges.share("5, 6 ahead of 6, 7", x -> x.ahead(0, 1), 3, 4);
        Edges.share("6, 7 ahead of 5, 6", x -> x.ahead(1, 0), 0, 1);
    }

    private static NamelessBox two(int marks, int known, int otherMarks, int otherKnown) {
        NamelessBox x = new NamelessBox();
        x.person(0, 100, marks, known);
        x.person(1, 100, otherMarks, otherKnown);
        return x;
    }

    private static void parts() {
        Edges.about(29, "two PEOPLE that are there");
        Edges.in(Edges::full);
        Edges.answered("the last two", x -> x.parts(3, 4), NONE);
        Edges.badOutside("p", 0, 4, v -> x -> x.parts(v, 1));
        Edges.badOutside("q", 0, 4, v -> x -> x.parts(1, v));
        Edges.about(29, "alike, too");
        Edges.refused("0, 0", x -> x.parts(0, 0), BAD);
        Edges.refused("4, 4", x -> x.parts(4, 4), BAD);
        Edges.in(Edges::some);
        Edges.badOutside("p", 0, 1, v -> x -> x.parts(v, 1));
        Edges.badOutside("q", 0, 1, v -> x -> x.parts(1, v));
        Edges.about(29, "the least MARK that both have known and unlike; none");
        for (int mark = 0; mark < 4; mark++) {
            int m = mark;
            int bit = 1 << m;
            Edges.in(() -> two(bit, 15, 0, 15));
            Edges.answered("MARK " + m + " alone", x -> x.parts(0, 1), m);
            Edges.answered("MARK " + m + " alone", x -> x.parts(1, 0), m);
            Edges.in(() -> two(15, 15, 0, bit));
            Edges.answered("MARK " + m + " is known of both", x -> x.parts(0, 1), m);
            Edges.in(() -> two(bit, 15, 0, 15 - bit));
            Edges.answered("MARK " + m + " is not known of one", x -> x.parts(0, 1), NONE);
            Edges.answered("MARK " + m + " is not known of one", x -> x.parts(1, 0), NONE);
            Edges.in(() -> two(15 & -bit, 15, 0, 15));
            Edges.answered("MARK " + m + " is the least", x -> x.parts(0, 1), m);
        }
        Edges.in(() -> two(15, 15, 15, 15));
        Edges.answered("all alike", x -> x.parts(0, 1), NONE);
        Edges.in(() -> two(15, 0, 0, 0));
        Edges.answered("none known", x -> x.parts(0, 1), NONE);
        Edges.in(() -> two(15, 15, 7, 8));
        Edges.taken("known by the PARENT", x -> x.parent(1, 0) * 0 + x.parts(0, 1), 3);
        Edges.taken("all by the PARENT", x -> x.parent(1, 0) * 0 + x.parts(1, 0), 3);
    }

    private static void doubt() {
        Edges.about(30, "two PEOPLE that are there");
        Edges.in(Edges::full);
        Edges.badOutside("p", 0, 4, v -> x -> x.doubt(v, 1));
        Edges.badOutside("q", 0, 4, v -> x -> x.doubt(1, v));
        Edges.about(30, "alike, too");
        Edges.refused("0, 0", x -> x.doubt(0, 0), BAD);
        Edges.refused("4, 4", x -> x.doubt(4, 4), BAD);
        Edges.in(Edges::some);
        Edges.badOutside("p", 0, 1, v -> x -> x.doubt(v, 1));
        Edges.badOutside("q", 0, 1, v -> x -> x.doubt(1, v));
        Edges.about(30, "of like ones the least");
        Edges.in(() -> {
            NamelessBox x = Edges.twins();
            x.picture(10, 10);
            x.head(1, 0, 0, 10, 10);
            return x;
        });
        Edges.answered("two alike", x -> x.doubt(0, 1), 0);
        Edges.taken("HEAD 0 is less in doubt", x -> x.name(0, 0, 0, 0) + x.doubt(0, 1), 1);
        Edges.taken("HEAD 0 is less in doubt, the other way", x -> x.name(0, 0, 0, 0) + x.doubt(1, 0), 1);
        Edges.taken("HEAD 1 is less in doubt", x -> x.name(0, 1, 1, 1) + x.doubt(0, 1), 0);
        Edges.about(30, "none: both are nowhere together above 0");
        Edges.in(Edges::twins);
        Edges.answered("both may be", x -> x.doubt(0, 1), 0);
        Edges.taken("p alone", x -> x.name(1, 0, 0, 0) + x.doubt(0, 1), NONE);
        Edges.taken("q alone", x -> x.name(1, 0, 1, 1) + x.doubt(0, 1), NONE);
        Edges.taken("neither", x -> x.name(4, 0, 0, 0) + x.doubt(0, 1), NONE);
        Edges.in(() -> two(0, 0, 0, 0));
        Edges.answered("no HEADS", x -> x.doubt(0, 1), NONE);
        Edges.in(() -> {
            NamelessBox x = new NamelessBox();
            x.person(0, 9, 0, 0);
            x.person(10, 100, 0, 0);
            x.picture(9, 9);
            x.picture(10, 10);
            x.head(0, 0, 0, 0, 99);
            x.head(1, 0, 0, 0, 99);
            return x;
        });
        Edges.answered("each is on another one", x -> x.doubt(0, 1), NONE);
        Edges.about(30, "above 0 is enough, and the last HEAD, too");
        Edges.in(WhenEdgesTest::lastInDoubt);
        Edges.answered("the sixth", x -> x.doubt(0, 1), 5);
    }

    /** HEADS 0 .. 4 are on a PICTURE ahead of all births; the sixth may be 0 or 1. */
    private static NamelessBox lastInDoubt() {
        NamelessBox x = new NamelessBox();
        x.person(10, 100, 0, 0);
        x.person(10, 100, 0, 0);
        x.picture(9, 9);
        x.picture(10, 10);
        for (int h = 0; h < 5; h++) {
            x.head(0, 0, 0, 0, 99);
        }
        x.head(1, 0, 0, 0, 99);
        return x;
    }

    private static void right() {
        Edges.about(31, "how many HEADS, in the mean, are as NAMED: from none to six");
        Edges.in(NamelessBox::new);
        Edges.share("nothing there", x -> x.right(), 0, 1);
        Edges.in(() -> two(0, 0, 0, 0));
        Edges.share("no HEADS", x -> x.right(), 0, 1);
        Edges.in(Edges::one);
        Edges.share("2 of 3", x -> x.right(), 2, 3);
        Edges.in(() -> named(Edges.one(), 1, 0, 0));
        Edges.share("one that is SURE", x -> x.right(), 1, 1);
        Edges.in(() -> {
            NamelessBox x = pictures(1, 1);
            for (int h = 0; h < 6; h++) {
                x.head(0, 0, 0, 0, 0);
            }
            return x;
        });
        Edges.share("six STRANGERS", x -> x.right(), 6, 1);
    }

    private static void ask() {
        Edges.about(32, "a HEAD that is there");
        Edges.in(Edges::some);
        Edges.taken("the last", x -> x.ask(2), 1);
        Edges.badOutside("ask", 0, 2, v -> x -> x.ask(v));
        Edges.in(Edges::full);
        Edges.badOutside("ask", 0, 5, v -> x -> x.ask(v));
        Edges.about(32, "of a PERSON 5 and NEAR; of a STRANGER 6");
        // of 60: she says 0: 4 t or 8; she says a STRANGER: 4 (10 - t) or 12; now 40
        long[][] worth = {{0, 1}, {0, 1}, {0, 1}, {1, 15}, {2, 15}};
        for (int near = 0; near <= 4; near++) {
            int n = near;
            Edges.in(() -> near(Edges.one(), 0, n));
            Edges.share("NEAR " + n, x -> x.ask(0), worth[n][0], worth[n][1]);
        }
        Edges.about(32, "else each other one (PEOPLE and a STRANGER) alike likely");
        Edges.in(() -> {
            NamelessBox x = Edges.twins();
            for (int p = 2; p < 5; p++) {
                x.person(0, 100, 0, 0);
            }
            return x;
        });
        // of 22 x 10 x 5: she says one of five: 4 x 7 x 5 each; a STRANGER: 2 x 6 x 5; now 4 x 10 x 5
        Edges.share("five PEOPLE", x -> x.ask(0), 28, 55);
        Edges.about(32, "0 without PEOPLE");
        Edges.in(() -> {
            NamelessBox x = pictures(1, 2);
            x.head(0, 0, 0, 0, 0);
            x.all();
            return x;
        });
        Edges.share("one HEAD", x -> x.ask(0), 0, 1);
        Edges.about(32, "what is SURE is worth nothing");
        Edges.in(() -> named(near(Edges.one(), 0, 4), 1, 0, 0));
        Edges.share("SURE", x -> x.ask(0), 0, 1);
        Edges.in(() -> named(near(Edges.one(), 0, 4), 4, 0, 0));
        Edges.share("NEVER", x -> x.ask(0), 0, 1);
        Edges.about(32, "RIGHT of all HEADS, not of the one that is asked for alone");
        Edges.in(() -> {
            NamelessBox x = near(Edges.apart(), 0, 4);
            x.strange(4);
            x.join(0, 1, 9);
            return x;
        });
        // both 144, one 32, the other 32, none 64, of 2720: HEAD 0: 1584 + 576, now 1760; HEAD 1: 1424 + 416, now 1760
        Edges.share("a JOIN", x -> x.ask(0), 3, 17);
    }

    private static void next() {
        Edges.about(33, "NONE: no HEADS");
        Edges.in(NamelessBox::new);
        Edges.answered("nothing there", x -> x.next(), NONE);
        Edges.in(() -> {
            NamelessBox x = two(0, 0, 0, 0);
            x.picture(1, 3);
            x.all();
            return x;
        });
        Edges.answered("PEOPLE and a PICTURE alone", x -> x.next(), NONE);
        Edges.about(33, "of like ones the least");
        Edges.in(() -> near(Edges.apart(), 0, 4));
        Edges.taken("two alike", x -> x.next(), 0);
        Edges.fraction("two alike", x -> x.next(), 2, 15);
        Edges.taken("HEAD 0 is SURE", x -> x.name(1, 0, 0, 0) + x.next(), 1);
        Edges.taken("HEAD 1 is SURE", x -> x.name(1, 1, 0, 0) + x.next(), 0);
        Edges.in(Edges::apart);
        Edges.taken("worth nothing both", x -> x.next(), 0);
        Edges.fraction("worth nothing both", x -> x.next(), 0, 1);
        Edges.about(33, "the last of six");
        Edges.in(WhenEdgesTest::lastInDoubt);
        Edges.taken("the sixth", x -> x.next(), 5);
        // of 10 x 10 x 2: she says 0 or 1: 4 x 7 x 2 each; a STRANGER: 2 x 6 x 2; now 4 x 10 x 2: 56 of 200
        Edges.fraction("the sixth", x -> x.next(), 7, 25);
        Edges.about(33, "without PEOPLE the first, worth 0");
        Edges.in(() -> {
            NamelessBox x = pictures(1, 2);
            x.head(0, 0, 0, 0, 0);
            x.head(0, 0, 0, 0, 0);
            x.all();
            return x;
        });
        Edges.taken("two HEADS", x -> x.next(), 0);
        Edges.fraction("two HEADS", x -> x.next(), 0, 1);
    }

    public static void main(String[] args) {
        when();
        span();
        ahead();
        parts();
        doubt();
        right();
        ask();
        next();
        Edges.done();
    }
}
