/** The boundary cases of promises 1 to 12: what a box may hold, and how great its numbers may be. */
public final class BoxEdgesTest {
    private static final int NONE = Edges.NONE, BAD = Edges.BAD, FULL = Edges.FULL;
    private static final int BAD_PARENT = -10;

    private static void aNewObject() {
        Edges.in(NamelessBox::new);
        Edges.about(1, "no PEOPLE, no PICTURES");
        for (int what = 0; what <= 5; what++) {
            int w = what;
            Edges.answered("count(" + w + ")", x -> x.count(w), 0);
        }
        Edges.answered("digest()", x -> x.digest(), Edges.mix(0, 0, 0, 0, 0, 0, 1, 0, 0, 1, 1));
        Edges.about(1, "THE FRACTION is 0 by 1 at first");
        Edges.answered("sign(0)", x -> x.sign(0), 0);
        Edges.answered("sign(1)", x -> x.sign(1), 0);
        Edges.answered("sign(2)", x -> x.sign(2), 1);
        Edges.answered("limb(0, 0)", x -> x.limb(0, 0), NONE);
        Edges.answered("limb(1, 0)", x -> x.limb(1, 0), 1);
        Edges.answered("limb(1, 1)", x -> x.limb(1, 1), NONE);
        Edges.about(1, "STATUS is of none");
        for (int what = 0; what <= 2; what++) {
            int w = what;
            Edges.answered("status(" + w + ")", x -> x.status(w), 0);
        }
        Edges.about(1, "STRANGE (1 at first)");
        Edges.taken("strange(1)", x -> x.strange(1), 1);
        Edges.about(1, "THE TEXT is empty");
        Edges.taken("clear()", x -> x.clear(), 0);
        Edges.about(1, "no IMAGE was kept");
        Edges.refused("from(0)", x -> x.from(0), Edges.NO);
        Edges.refused("from(1)", x -> x.from(1), Edges.NO);
        Edges.about(1, "two objects share nothing");
        NamelessBox other = new NamelessBox();
        Edges.full();
        Edges.same("a box beside a full one", Edges.allOf(other), Edges.allOf(new NamelessBox()));
    }

    /** Nothing there: what takes a PERSON, a PICTURE, a HEAD or a NAME takes none. */
    private static void nothingThere() {
        Edges.in(NamelessBox::new);
        Edges.about(1, "a number of one that is not there is BAD");
        Edges.refused("parent(0, -1)", x -> x.parent(0, NONE), BAD_PARENT);
        Edges.refused("near(0, 2)", x -> x.near(0, 2), BAD);
        Edges.refused("head(0, ..)", x -> x.head(0, 0, 0, 0, 0), BAD);
        Edges.refused("name(0, 0, 0, 0)", x -> x.name(0, 0, 0, 0), BAD);
        Edges.refused("join(0, 1, 5)", x -> x.join(0, 1, 5), BAD);
        Edges.refused("mark(0, 0)", x -> x.mark(0, 0), BAD);
        Edges.refused("like(0, -1, 0)", x -> x.like(0, NONE, 0), BAD);
        Edges.refused("truth(0)", x -> x.truth(0), BAD);
        Edges.refused("who(0, -1)", x -> x.who(0, NONE), BAD);
        Edges.refused("named(0)", x -> x.named(0), BAD);
        Edges.refused("best(0)", x -> x.best(0), BAD);
        Edges.refused("falls(0, 0)", x -> x.falls(0, 0), BAD);
        Edges.refused("same(0, 1)", x -> x.same(0, 1), BAD);
        Edges.refused("noneOf(0)", x -> x.noneOf(0), BAD);
        Edges.refused("friend(0)", x -> x.friend(0), BAD);
        Edges.refused("of(0, 0)", x -> x.of(0, 0), BAD);
        Edges.refused("when(0, 0)", x -> x.when(0, 0), BAD);
        Edges.refused("span(0, 0)", x -> x.span(0, 0), BAD);
        Edges.refused("ahead(0, 1)", x -> x.ahead(0, 1), BAD);
        Edges.refused("parts(0, 1)", x -> x.parts(0, 1), BAD);
        Edges.refused("doubt(0, 1)", x -> x.doubt(0, 1), BAD);
        Edges.refused("ask(0)", x -> x.ask(0), BAD);
    }

    private static void person() {
        Edges.in(Edges::some);
        Edges.about(2, "BORN is one of the YEARS 0 .. 99");
        Edges.taken("born 0", x -> x.person(0, 50, 0, 0), 2);
        Edges.taken("born 99", x -> x.person(99, 99, 0, 0), 2);
        Edges.taken("born 99, lives", x -> x.person(99, 100, 0, 0), 2);
        Edges.badOutside("born", 0, 99, v -> x -> x.person(v, 100, 0, 0));
        Edges.refused("born -1, died 50", x -> x.person(-1, 50, 0, 0), BAD);
        Edges.refused("born 100, died 100", x -> x.person(100, 100, 0, 0), BAD);
        Edges.about(2, "DIED is BORN .. 99, or 100: lives");
        Edges.taken("died as born", x -> x.person(50, 50, 0, 0), 2);
        Edges.taken("died 99", x -> x.person(50, 99, 0, 0), 2);
        Edges.taken("died 100", x -> x.person(50, 100, 0, 0), 2);
        Edges.badOutside("born 50, died", 50, 100, v -> x -> x.person(50, v, 0, 0));
        Edges.badOutside("born 0, died", 0, 100, v -> x -> x.person(0, v, 0, 0));
        Edges.badOutside("born 99, died", 99, 100, v -> x -> x.person(99, v, 0, 0));
        Edges.about(2, "MARKS are bits 0 .. 3");
        Edges.taken("marks 0", x -> x.person(50, 60, 0, 15), 2);
        Edges.taken("marks 15", x -> x.person(50, 60, 15, 15), 2);
        Edges.badOutside("marks", 0, 15, v -> x -> x.person(50, 60, v, 15));
        Edges.about(2, "KNOWN are bits 0 .. 3");
        Edges.taken("known 0", x -> x.person(50, 60, 15, 0), 2);
        Edges.taken("known 15", x -> x.person(50, 60, 0, 15), 2);
        Edges.badOutside("known", 0, 15, v -> x -> x.person(50, 60, 15, v));
        fivePeople();
    }

    private static void fivePeople() {
        Edges.about(2, "A PERSON: the number; PEOPLE 0 .. 4, as they come");
        NamelessBox x = new NamelessBox();
        for (int p = 0; p < 5; p++) {
            Edges.due("person", x.person(p, 100, p, p + 1), p);
            Edges.due("count(0)", x.count(0), p + 1);
        }
        Edges.same("what they are", x.digest(), Edges.mix(5, 0, 0, 0, 0, 0, 0, 100, 0, 1, -1, 2, 1, 100, 1, 2, -1, 2,
                2, 100, 2, 3, -1, 2, 3, 100, 3, 4, -1, 2, 4, 100, 4, 5, -1, 2, 1, 0, 0, 1, 1));
        Edges.in(Edges::full);
        Edges.about(2, "FULL: 5");
        Edges.refused("a 6th", y -> y.person(1, 2, 3, 4), FULL);
        Edges.about(2, "BAD ahead of FULL");
        Edges.refused("born -1", y -> y.person(-1, 2, 3, 4), BAD);
        Edges.refused("died ahead of his birth", y -> y.person(3, 2, 3, 4), BAD);
        Edges.refused("marks 16", y -> y.person(1, 2, 16, 4), BAD);
        Edges.refused("known 16", y -> y.person(1, 2, 3, 16), BAD);
    }

    /** 0: 10 .. 30; 1: 30; 2: 31; 3: 10; 4: 9 .. 99. */
    private static NamelessBox family() {
        NamelessBox x = new NamelessBox();
        x.person(10, 30, 0, 0);
        x.person(30, 100, 0, 0);
        x.person(31, 100, 0, 0);
        x.person(10, 100, 0, 0);
        x.person(9, 99, 0, 0);
        return x;
    }

    private static void parent() {
        Edges.in(BoxEdgesTest::family);
        Edges.about(3, "a PERSON that is there");
        Edges.taken("of the first", x -> x.parent(0, NONE), NONE);
        Edges.taken("of the last", x -> x.parent(4, NONE), NONE);
        Edges.refusedOutside("of", 0, 4, v -> x -> x.parent(v, NONE), BAD_PARENT);
        Edges.refusedOutside("of", 0, 4, v -> x -> x.parent(v, 0), BAD_PARENT);
        Edges.about(3, "PARENT: one that is there, NONE: none");
        Edges.taken("the first", x -> x.parent(1, 0), NONE);
        Edges.refusedOutside("parent of 1", -1, 0, v -> x -> x.parent(1, v), BAD_PARENT);
        Edges.refusedOutside("parent of 4", -1, -1, v -> x -> x.parent(4, v), BAD_PARENT);
        Edges.refused("parent that is not there", x -> x.parent(4, 5), BAD_PARENT);
        Edges.about(3, "not one ahead in number");
        Edges.taken("next ahead", x -> x.parent(2, 1), NONE);
        Edges.refused("himself", x -> x.parent(2, 2), BAD_PARENT);
        Edges.refused("one behind", x -> x.parent(2, 3), BAD_PARENT);
        Edges.refused("the first has none ahead", x -> x.parent(0, 4), BAD_PARENT);
        Edges.about(3, "not born in an earlier year");
        Edges.taken("a year earlier", x -> x.parent(2, 1), NONE);
        Edges.refused("in the same year", x -> x.parent(3, 0), BAD_PARENT);
        Edges.refused("a year later", x -> x.parent(4, 3), BAD_PARENT);
        Edges.about(3, "died ahead of his birth");
        Edges.taken("in the year of it", x -> x.parent(1, 0), NONE);
        Edges.refused("a year ahead of it", x -> x.parent(2, 0), BAD_PARENT);
        lastBorn();
        Edges.about(3, "what it was");
        NamelessBox x = family();
        Edges.due("at first", x.parent(2, 1), NONE);
        Edges.due("one again", x.parent(2, 1), 1);
        Edges.due("none", x.parent(2, NONE), 1);
        Edges.due("none again", x.parent(2, NONE), NONE);
        Edges.due("0 is a number, too", x.parent(1, 0), NONE);
        Edges.due("0 is a number, too", x.parent(1, NONE), 0);
        Edges.due("nothing is refused", x.status(0) + x.status(1) + x.status(2), 0);
    }

    private static void lastBorn() {
        Edges.in(() -> {
            NamelessBox x = new NamelessBox();
            x.person(0, 99, 0, 0);
            x.person(0, 98, 0, 0);
            x.person(0, 100, 0, 0);
            x.person(99, 99, 0, 0);
            x.person(1, 1, 0, 0);
            return x;
        });
        Edges.taken("died 99, birth 99", x -> x.parent(3, 0), NONE);
        Edges.refused("died 98, birth 99", x -> x.parent(3, 1), BAD_PARENT);
        Edges.taken("lives, birth 99", x -> x.parent(3, 2), NONE);
        Edges.taken("born 0, birth 1", x -> x.parent(4, 0), NONE);
    }

    private static void near() {
        Edges.in(Edges::some);
        Edges.about(4, "a PERSON that is there");
        Edges.taken("of the first", x -> x.near(0, 0), 2);
        Edges.taken("of the last", x -> x.near(1, 0), 3);
        Edges.badOutside("near of", 0, 1, v -> x -> x.near(v, 2));
        Edges.about(4, "NEAR is 0 .. 4");
        Edges.taken("0", x -> x.near(0, 0), 2);
        Edges.taken("4", x -> x.near(0, 4), 2);
        Edges.badOutside("near", 0, 4, v -> x -> x.near(0, v));
        Edges.about(4, "2 at first; what it was");
        NamelessBox x = Edges.one();
        Edges.due("at first", x.near(0, 4), 2);
        Edges.due("4", x.near(0, 0), 4);
        Edges.due("0", x.near(0, 0), 0);
        Edges.in(Edges::full);
        Edges.about(4, "a PERSON that is there, with five");
        Edges.taken("of the fifth", y -> y.near(4, 1), 2);
        Edges.badOutside("near of", 0, 4, v -> y -> y.near(v, 2));
    }

    private static void picture() {
        Edges.in(Edges::some);
        Edges.about(5, "FROM is one of the YEARS");
        Edges.taken("from 0", x -> x.picture(0, 0), 2);
        Edges.taken("from 99", x -> x.picture(99, 99), 2);
        Edges.refused("from -1", x -> x.picture(-1, 0), BAD);
        Edges.refused("from -1, to -1", x -> x.picture(-1, -1), BAD);
        Edges.refused("from 100, to 99", x -> x.picture(100, 99), BAD);
        Edges.refused("from 100, to 100", x -> x.picture(100, 100), BAD);
        Edges.about(5, "TO is one of the YEARS, not ahead of FROM");
        Edges.badOutside("from 50, to", 50, 61, v -> x -> x.picture(50, v));
        Edges.badOutside("from 99, to", 99, 99, v -> x -> x.picture(99, v));
        Edges.badOutside("from 95, to", 95, 99, v -> x -> x.picture(95, v));
        Edges.about(5, "11 years behind FROM at most");
        Edges.taken("0 .. 11", x -> x.picture(0, 11), 2);
        Edges.refused("0 .. 12", x -> x.picture(0, 12), BAD);
        Edges.taken("88 .. 99", x -> x.picture(88, 99), 2);
        Edges.refused("87 .. 99", x -> x.picture(87, 99), BAD);
        Edges.refused("89 .. 100", x -> x.picture(89, 100), BAD);
        Edges.about(5, "a difference that wraps around");
        Edges.refused("far ahead .. far behind", x -> x.picture(Edges.LEAST, Edges.MOST), BAD);
        Edges.refused("far behind .. far ahead", x -> x.picture(Edges.MOST, Edges.LEAST), BAD);
        Edges.refused("2 below the least", x -> x.picture(Edges.MOST - 1, Edges.LEAST), BAD);
        Edges.about(5, "A PICTURE: its number; PICTURES 0 .. 3");
        NamelessBox x = new NamelessBox();
        for (int p = 0; p < 4; p++) {
            Edges.due("picture", x.picture(p, p + 3), p);
            Edges.due("count(1)", x.count(1), p + 1);
        }
        Edges.same("what they are", x.digest(), Edges.mix(0, 4, 0, 0, 0, 0, 0, 3, 1, 4, 2, 5, 3, 6, 1, 0, 0, 1, 1));
        Edges.in(Edges::full);
        Edges.about(5, "FULL: 4");
        Edges.refused("a 5th", y -> y.picture(1, 2), FULL);
        Edges.about(5, "BAD ahead of FULL");
        Edges.refused("a bad 5th", y -> y.picture(2, 1), BAD);
        Edges.refused("a 5th of 13 years", y -> y.picture(0, 12), BAD);
    }

    private static void head() {
        Edges.in(Edges::some);
        Edges.about(6, "a PICTURE that is there");
        Edges.taken("on the first", x -> x.head(0, 0, 0, 0, 0), 3);
        Edges.taken("on the last", x -> x.head(1, 0, 0, 0, 0), 3);
        Edges.badOutside("on", 0, 1, v -> x -> x.head(v, 0, 0, 0, 0));
        Edges.about(6, "MARKS are bits 0 .. 3");
        Edges.taken("marks 0", x -> x.head(0, 0, 15, 0, 0), 3);
        Edges.taken("marks 15", x -> x.head(0, 15, 0, 0, 0), 3);
        Edges.badOutside("marks", 0, 15, v -> x -> x.head(0, v, 0, 0, 0));
        Edges.about(6, "SEEN are bits 0 .. 3");
        Edges.taken("seen 15", x -> x.head(0, 15, 15, 0, 0), 3);
        Edges.badOutside("seen", 0, 15, v -> x -> x.head(0, 0, v, 0, 0));
        Edges.about(6, "AGE LOW .. HIGH (0 .. 99)");
        Edges.taken("0 .. 0", x -> x.head(0, 0, 0, 0, 0), 3);
        Edges.taken("0 .. 99", x -> x.head(0, 0, 0, 0, 99), 3);
        Edges.taken("99 .. 99", x -> x.head(0, 0, 0, 99, 99), 3);
        Edges.badOutside("low (high 99)", 0, 99, v -> x -> x.head(0, 0, 0, v, 99));
        Edges.badOutside("low (high 40)", 0, 40, v -> x -> x.head(0, 0, 0, v, 40));
        Edges.badOutside("high (low 40)", 40, 99, v -> x -> x.head(0, 0, 0, 40, v));
        Edges.badOutside("high (low 0)", 0, 99, v -> x -> x.head(0, 0, 0, 0, v));
        Edges.refused("low -1, high -1", x -> x.head(0, 0, 0, -1, -1), BAD);
        Edges.refused("low 100, high 100", x -> x.head(0, 0, 0, 100, 100), BAD);
        Edges.about(6, "A HEAD: its number; HEADS 0 .. 5");
        NamelessBox x = new NamelessBox();
        x.picture(7, 7);
        for (int h = 0; h < 6; h++) {
            Edges.due("head", x.head(0, h, h + 1, h + 2, h + 3), h);
            Edges.due("count(2)", x.count(2), h + 1);
        }
        Edges.same("what they are", x.digest(), Edges.mix(0, 1, 6, 0, 0, 0, 7, 7, 0, 0, 1, 2, 3, 0, 1, 2, 3, 4,
                0, 2, 3, 4, 5, 0, 3, 4, 5, 6, 0, 4, 5, 6, 7, 0, 5, 6, 7, 8, 1, 0, 0, 1, 1));
        Edges.in(Edges::full);
        Edges.about(6, "FULL: 6");
        Edges.refused("a 7th on the first", y -> y.head(0, 0, 0, 0, 0), FULL);
        Edges.refused("a 7th on the last", y -> y.head(3, 0, 0, 0, 0), FULL);
        Edges.about(6, "BAD ahead of FULL");
        Edges.badOutside("a 7th on", 0, 3, v -> y -> y.head(v, 0, 0, 0, 0));
        Edges.refused("marks 16", y -> y.head(0, 16, 0, 0, 0), BAD);
        Edges.refused("seen 16", y -> y.head(0, 0, 16, 0, 0), BAD);
        Edges.refused("low 5, high 4", y -> y.head(0, 0, 0, 5, 4), BAD);
    }

    private static void name() {
        Edges.in(Edges::some);
        Edges.about(7, "KINDS 0 .. 5");
        Edges.taken("kind 0", x -> x.name(0, 0, 0, 0), 1);
        Edges.taken("kind 5", x -> x.name(5, 0, 0, 0), 1);
        Edges.badOutside("kind", 0, 5, v -> x -> x.name(v, 0, 0, 0));
        Edges.about(7, "a HEAD that is there");
        Edges.taken("of the first", x -> x.name(0, 0, 0, 0), 1);
        Edges.taken("of the last", x -> x.name(0, 2, 0, 0), 1);
        Edges.badOutside("of", 0, 2, v -> x -> x.name(0, v, 0, 0));
        Edges.about(7, "p, q (PEOPLE that are there, whether they count or not)");
        for (int kind = 0; kind <= 5; kind++) {
            int k = kind;
            Edges.taken("the last p and q of kind " + k, x -> x.name(k, 0, 1, 1), 1);
            Edges.badOutside("kind " + k + ", p", 0, 1, v -> x -> x.name(k, 0, v, 0));
            Edges.badOutside("kind " + k + ", q", 0, 1, v -> x -> x.name(k, 0, 0, v));
        }
        Edges.about(7, "A NAME: its number; NAMES 0 .. 3");
        NamelessBox x = Edges.one();
        for (int n = 0; n < 4; n++) {
            Edges.due("name", x.name(n + 2, 0, 0, 0), n);
            Edges.due("count(3)", x.count(3), n + 1);
        }
        Edges.same("what they are", x.digest(), Edges.mix(1, 1, 1, 4, 0, 0, 0, 100, 0, 0, -1, 2, 10, 10, 0, 0, 0, 10, 10,
                2, 0, 0, 0, 3, 0, 0, 0, 4, 0, 0, 0, 5, 0, 0, 0, 1, 0, 0, 1, 1));
        Edges.in(Edges::full);
        Edges.about(7, "FULL: 4");
        Edges.refused("a 5th", y -> y.name(0, 0, 0, 0), FULL);
        Edges.refused("a 5th of the last", y -> y.name(5, 5, 4, 4), FULL);
        Edges.about(7, "BAD ahead of FULL");
        Edges.badOutside("kind", 0, 5, v -> y -> y.name(v, 0, 0, 0));
        Edges.badOutside("of", 0, 5, v -> y -> y.name(0, v, 0, 0));
        Edges.badOutside("p", 0, 4, v -> y -> y.name(0, 0, v, 0));
        Edges.badOutside("q", 0, 4, v -> y -> y.name(0, 0, 0, v));
    }

    private static void join() {
        Edges.in(Edges::some);
        Edges.about(8, "two HEADS that are there");
        Edges.taken("first and last", x -> x.join(0, 2, 5), 1);
        Edges.taken("last and first", x -> x.join(2, 0, 5), 1);
        Edges.badOutside("a", 0, 2, v -> x -> x.join(v, 2, 5));
        Edges.badOutside("b", 0, 2, v -> x -> x.join(2, v, 5));
        Edges.about(8, "HEADS of one PICTURE, too");
        Edges.refused("two of it", x -> x.join(0, 1, 5), BAD);
        Edges.refused("two of it", x -> x.join(1, 0, 5), BAD);
        Edges.refused("one twice", x -> x.join(0, 0, 5), BAD);
        Edges.refused("the last twice", x -> x.join(2, 2, 5), BAD);
        Edges.about(8, "w of 10 (0 .. 10)");
        Edges.taken("w 0", x -> x.join(0, 2, 0), 1);
        Edges.taken("w 10", x -> x.join(0, 2, 10), 1);
        Edges.badOutside("w", 0, 10, v -> x -> x.join(0, 2, v));
        Edges.about(8, "A JOIN: its number; JOINS 0 .. 3");
        NamelessBox x = Edges.apart();
        for (int j = 0; j < 4; j++) {
            Edges.due("the same two again", x.join(1, 0, j), j);
            Edges.due("count(4)", x.count(4), j + 1);
        }
        Edges.same("what they are", x.digest(), Edges.mix(1, 2, 2, 0, 4, 0, 0, 100, 0, 0, -1, 2, 10, 10, 10, 10,
                0, 0, 0, 10, 10, 1, 0, 0, 10, 10, 1, 0, 0, 1, 0, 1, 1, 0, 2, 1, 0, 3, 1, 0, 0, 1, 1));
        Edges.in(Edges::full);
        Edges.about(8, "FULL: 4");
        Edges.refused("a 5th", y -> y.join(0, 2, 5), FULL);
        Edges.refused("a 5th of the last", y -> y.join(5, 0, 5), FULL);
        Edges.about(8, "BAD ahead of FULL");
        Edges.badOutside("a", 0, 5, v -> y -> y.join(v, 2, 5));
        Edges.badOutside("b", 0, 5, v -> y -> y.join(2, v, 5));
        Edges.badOutside("w", 0, 10, v -> y -> y.join(0, 2, v));
        Edges.refused("of one PICTURE", y -> y.join(2, 3, 5), BAD);
    }

    private static void strange() {
        Edges.in(Edges::some);
        Edges.about(9, "STRANGE is 0 .. 9");
        Edges.taken("0", x -> x.strange(0), 3);
        Edges.taken("9", x -> x.strange(9), 3);
        Edges.badOutside("strange", 0, 9, v -> x -> x.strange(v));
        Edges.about(9, "what it was");
        NamelessBox x = new NamelessBox();
        Edges.due("at first", x.strange(9), 1);
        Edges.due("9", x.strange(0), 9);
        Edges.due("0", x.strange(0), 0);
        Edges.due("refused", x.strange(10), BAD);
        Edges.due("0 still", x.strange(1), 0);
    }

    /** Five of one line: the first knows all of MARKS 1001, the second MARK 0 alone: 0, the others none. */
    private static NamelessBox line() {
        NamelessBox x = new NamelessBox();
        x.person(0, 100, 9, 15);
        x.person(20, 100, 14, 1);
        for (int p = 2; p < 5; p++) {
            x.person(20 * p, 100, 15, 0);
        }
        for (int p = 1; p < 5; p++) {
            x.parent(p, p - 1);
        }
        return x;
    }

    private static void mark() {
        Edges.in(BoxEdgesTest::line);
        Edges.about(10, "as told, if it is KNOWN");
        int[] first = {1, 0, 0, 1};
        for (int mark = 0; mark < 4; mark++) {
            int m = mark;
            Edges.answered("MARK " + m + " of the first", x -> x.mark(0, m), first[m]);
        }
        Edges.answered("known to be unlike the PARENT's", x -> x.mark(1, 0), 0);
        Edges.about(10, "else as its PARENT's (so on)");
        int[] last = {0, 0, 0, 1};
        for (int mark = 0; mark < 4; mark++) {
            int m = mark;
            Edges.answered("MARK " + m + " of the next", x -> x.mark(1, m), last[m]);
            Edges.answered("MARK " + m + " of the last", x -> x.mark(4, m), last[m]);
        }
        Edges.about(10, "none: not known");
        Edges.taken("without PARENT", x -> x.parent(1, NONE) * 0 + x.mark(4, 1), NONE);
        Edges.taken("told further down", x -> x.parent(1, NONE) * 0 + x.mark(4, 0), 0);
        Edges.taken("the line broken at its end", x -> x.parent(4, NONE) * 0 + x.mark(4, 3), NONE);
        Edges.taken("the first one, of whom nothing is known", x -> x.parent(2, NONE) * 0 + x.mark(2, 0), NONE);
        Edges.about(10, "a PERSON that is there");
        Edges.badOutside("of", 0, 4, v -> x -> x.mark(v, 0));
        Edges.about(10, "MARK 0 .. 3");
        Edges.badOutside("mark", 0, 3, v -> x -> x.mark(0, v));
        Edges.badOutside("mark of one who knows none", 0, 3, v -> x -> x.mark(4, v));
        Edges.refused("32, which shifts as 0 does", x -> x.mark(0, 32), BAD);
        Edges.in(Edges::some);
        Edges.badOutside("of", 0, 1, v -> x -> x.mark(v, 0));
    }

    /** One PERSON, one HEAD on a PICTURE of 50. */
    private static NamelessBox seen(int born, int died, int low, int high) {
        NamelessBox x = new NamelessBox();
        x.person(born, died, 0, 0);
        x.picture(50, 50);
        x.head(0, 0, 0, low, high);
        return x;
    }

    private static void likeBy(String what, int[] life, int year, int want) {
        Edges.in(() -> seen(life[0], life[1], life[2], life[3]));
        Edges.answered(what, x -> x.like(0, 0, year), want);
    }

    private static void like() {
        Edges.about(11, "0, if that one is not born");
        likeBy("the year ahead of his birth", new int[] {20, 50, 0, 99}, 19, 0);
        likeBy("the year of his birth", new int[] {20, 50, 0, 99}, 20, 4);
        likeBy("born 0 in 0", new int[] {0, 50, 0, 99}, 0, 4);
        likeBy("born 99 in 98", new int[] {99, 100, 0, 99}, 98, 0);
        likeBy("born 99 in 99", new int[] {99, 100, 0, 99}, 99, 4);
        Edges.about(11, "or died ahead of it");
        likeBy("the year of his death", new int[] {20, 50, 0, 99}, 50, 4);
        likeBy("the year behind his death", new int[] {20, 50, 0, 99}, 51, 0);
        likeBy("born and died in it", new int[] {20, 20, 0, 99}, 20, 4);
        likeBy("died 98 in 99", new int[] {20, 98, 0, 99}, 99, 0);
        likeBy("died 99 in 99", new int[] {20, 99, 0, 99}, 99, 4);
        likeBy("lives in 99", new int[] {20, 100, 0, 99}, 99, 4);
        Edges.about(11, "4, if his age is LOW .. HIGH; 2, if it is off by 5 years at most; else 1");
        int[][] ages = {{0, 1}, {13, 1}, {14, 1}, {15, 2}, {19, 2}, {20, 4}, {21, 4}, {30, 4}, {31, 2}, {35, 2}, {36, 1},
            {89, 1}};
        for (int[] a : ages) {
            likeBy("20 .. 30 at " + a[0], new int[] {10, 100, 20, 30}, 10 + a[0], a[1]);
        }
        likeBy("0 .. 0 at 0", new int[] {10, 100, 0, 0}, 10, 4);
        likeBy("0 .. 0 at 1", new int[] {10, 100, 0, 0}, 11, 2);
        likeBy("0 .. 0 at 5", new int[] {10, 100, 0, 0}, 15, 2);
        likeBy("0 .. 0 at 6", new int[] {10, 100, 0, 0}, 16, 1);
        likeBy("5 .. 9 at 0", new int[] {10, 100, 5, 9}, 10, 2);
        likeBy("6 .. 9 at 0", new int[] {10, 100, 6, 9}, 10, 1);
        likeBy("99 .. 99 at 99", new int[] {0, 100, 99, 99}, 99, 4);
        likeBy("94 .. 94 at 99", new int[] {0, 100, 94, 94}, 99, 2);
        likeBy("93 .. 93 at 99", new int[] {0, 100, 93, 93}, 99, 1);
        likeBy("99 .. 99 at 94", new int[] {0, 100, 99, 99}, 94, 2);
        likeBy("99 .. 99 at 93", new int[] {0, 100, 99, 99}, 93, 1);
        likeByMarks();
        likeOfStrangers();
        likeRefused();
    }

    private static NamelessBox marked(int marks, int known, int headMarks, int seen) {
        NamelessBox x = new NamelessBox();
        x.person(0, 100, marks, known);
        x.picture(50, 50);
        x.head(0, headMarks, seen, 0, 99);
        return x;
    }

    private static void likeByMarks() {
        Edges.about(11, "for each MARK that is SEEN 3, if his is alike, 1, if not, 2, if it is not known");
        for (int m = 0; m < 4; m++) {
            int bit = 1 << m;
            Edges.due("MARK " + m + " of both", marked(bit, bit, bit, bit).like(0, 0, 50), 12);
            Edges.due("MARK " + m + " of none", marked(15 - bit, bit, 15 - bit, bit).like(0, 0, 50), 12);
            Edges.due("MARK " + m + " of him alone", marked(bit, bit, 0, bit).like(0, 0, 50), 4);
            Edges.due("MARK " + m + " of the HEAD alone", marked(0, bit, bit, bit).like(0, 0, 50), 4);
            Edges.due("MARK " + m + " not known", marked(15, 15 - bit, bit, bit).like(0, 0, 50), 8);
            Edges.due("MARK " + m + " not SEEN", marked(bit, 15, bit, 15 - bit).like(0, 0, 50), 4 * 27);
        }
        Edges.due("none SEEN", marked(0, 15, 15, 0).like(0, 0, 50), 4);
        Edges.due("all alike", marked(10, 15, 10, 15).like(0, 0, 50), 324);
        Edges.due("all unlike", marked(10, 15, 5, 15).like(0, 0, 50), 4);
        Edges.due("none known", marked(10, 0, 10, 15).like(0, 0, 50), 64);
        Edges.due("all alike in the year 0", marked(10, 15, 10, 15).like(0, 0, 0), 324);
    }

    private static void likeOfStrangers() {
        Edges.about(11, "As a STRANGER: STRANGE (0 .. 9) times 2, and 2 for each MARK that is SEEN");
        int[][] strangers = {{0, 0, 0}, {0, 15, 0}, {1, 0, 2}, {9, 0, 18}, {9, 1, 36}, {9, 2, 36}, {9, 4, 36}, {9, 8, 36},
            {9, 7, 144}, {9, 15, 288}, {1, 15, 32}};
        for (int[] s : strangers) {
            NamelessBox x = marked(0, 15, 6, s[1]);
            x.strange(s[0]);
            Edges.due("STRANGE " + s[0] + ", SEEN " + s[1], x.like(0, NONE, 50), s[2]);
            Edges.due("in the year 0", x.like(0, NONE, 0), s[2]);
            Edges.due("in the year 99", x.like(0, NONE, 99), s[2]);
        }
    }

    private static void likeRefused() {
        Edges.in(Edges::some);
        Edges.about(11, "a HEAD that is there");
        // age 30 of 28 .. 33: 4; MARK 0 is unlike: 1; 1 and 2 are alike, by the PARENT: 3, 3; 3 is not known: 2
        Edges.answered("the last HEAD", x -> x.like(2, 1, 60), 4 * 1 * 3 * 3 * 2);
        Edges.badOutside("like of", 0, 2, v -> x -> x.like(v, 0, 60));
        Edges.about(11, "a PERSON that is there, or NONE");
        Edges.badOutside("like as", -1, 1, v -> x -> x.like(0, v, 60));
        Edges.about(11, "a year");
        Edges.answered("the year 0", x -> x.like(0, NONE, 0), 24);
        Edges.answered("the year 99", x -> x.like(0, NONE, 99), 24);
        Edges.badOutside("like in", 0, 99, v -> x -> x.like(0, 0, v));
        Edges.badOutside("a STRANGER's in", 0, 99, v -> x -> x.like(0, NONE, v));
        Edges.in(Edges::full);
        Edges.badOutside("like of", 0, 5, v -> x -> x.like(v, 0, 60));
        Edges.badOutside("like as", -1, 4, v -> x -> x.like(0, v, 60));
    }

    private static void truth() {
        Edges.about(12, "TRUTH of 10 by KINDS, NEAR of p 0 .. 4");
        int[][] due = {{6, 10, 5, 5, 10, 3}, {6, 10, 6, 6, 10, 4}, {6, 10, 7, 7, 10, 5}, {6, 10, 8, 8, 10, 6},
            {6, 10, 9, 9, 10, 7}};
        for (int near = 0; near <= 4; near++) {
            for (int kind = 0; kind <= 5; kind++) {
                NamelessBox x = Edges.twins();
                x.near(0, near);
                x.near(1, 4 - near);
                x.name(kind, 0, 0, 1);
                Edges.due("kind " + kind + ", NEAR " + near, x.truth(0), due[near][kind]);
                x.near(0, 4 - near);
                Edges.due("kind " + kind + ", NEAR told later", x.truth(0), due[4 - near][kind]);
            }
        }
        Edges.about(12, "a NAME that is there");
        Edges.in(Edges::some);
        Edges.answered("the only one", x -> x.truth(0), 8);
        Edges.badOutside("truth of", 0, 0, v -> x -> x.truth(v));
        Edges.in(Edges::full);
        Edges.answered("the last one", x -> x.truth(3), 5);
        Edges.badOutside("truth of", 0, 3, v -> x -> x.truth(v));
        Edges.in(Edges::one);
        Edges.badOutside("without NAMES, truth of", 0, -1, v -> x -> x.truth(v));
    }

    public static void main(String[] args) {
        aNewObject();
        nothingThere();
        person();
        parent();
        near();
        picture();
        head();
        name();
        join();
        strange();
        mark();
        like();
        truth();
        Edges.done();
    }
}
