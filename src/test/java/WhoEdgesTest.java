/** The boundary cases of promises 16 to 25: WAYS, who is who, what is SURE and what FALLS, who is on none. */
public final class WhoEdgesTest {
    private static final int NONE = Edges.NONE, BAD = Edges.BAD, NO = Edges.NO, STRANGER = Edges.STRANGER;

    /** A HEAD on a PICTURE of one year that looks like all PEOPLE: LIKE is 4 of each, 2 of a STRANGER. */
    private static NamelessBox people(int n, int heads) {
        NamelessBox x = new NamelessBox();
        for (int p = 0; p < n; p++) {
            x.person(0, 100, 0, 0);
        }
        x.picture(10, 10);
        for (int h = 0; h < heads; h++) {
            x.head(0, 0, 0, 10, 10);
        }
        return x;
    }

    private static NamelessBox strange(NamelessBox x, int v) {
        x.strange(v);
        return x;
    }

    private static NamelessBox named(NamelessBox x, int kind, int head, int p, int q) {
        x.name(kind, head, p, q);
        return x;
    }

    private static NamelessBox joined(NamelessBox x, int a, int b, int w) {
        x.join(a, b, w);
        return x;
    }

    private static void ways() {
        Edges.about(16, "no PERSON is twice on one PICTURE; a STRANGER may be");
        Edges.in(() -> people(1, 2));
        Edges.share("1 PERSON, 2 HEADS: 8, 8, 4", x -> x.all(), 20, 1);
        Edges.in(() -> strange(people(1, 2), 0));
        Edges.refused("1 PERSON, 2 HEADS, no STRANGERS", x -> x.all(), NO);
        Edges.in(() -> strange(people(2, 2), 0));
        Edges.share("2 PEOPLE, 2 HEADS, no STRANGERS: 16, 16", x -> x.all(), 32, 1);
        Edges.in(() -> strange(people(5, 5), 0));
        Edges.share("5 PEOPLE, 5 HEADS, no STRANGERS: 120 x 4 to the 5th", x -> x.all(), 120 * 1024, 1);
        Edges.in(() -> strange(people(5, 6), 0));
        Edges.refused("5 PEOPLE, 6 HEADS, no STRANGERS", x -> x.all(), NO);
        Edges.in(() -> people(5, 6));
        // of 6 HEADS k are PEOPLE: 6 over k x 5 x .. (k of them) x 4 to the k x 2 to the 6 - k
        Edges.share("5 PEOPLE, 6 HEADS", x -> x.all(), 64L * (1 + 6 * 5 * 2 + 15 * 20 * 4 + 20 * 60 * 8 + 15 * 120 * 16
                + 6 * 120 * 32), 1);
        Edges.in(() -> people(0, 6));
        Edges.share("no PEOPLE, 6 HEADS", x -> x.all(), 64, 1);
        Edges.in(() -> strange(people(0, 1), 0));
        Edges.refused("no PEOPLE, no STRANGERS", x -> x.all(), NO);
        Edges.in(() -> strange(Edges.apart(), 0));
        Edges.share("a PERSON may be on two PICTURES", x -> x.all(), 16, 1);
        weights();
    }

    private static void weights() {
        Edges.about(19, "of each PICTURE the sum over its years; without HEADS: how many years");
        Edges.in(NamelessBox::new);
        Edges.share("no PICTURES", x -> x.all(), 1, 1);
        Edges.share("one year", x -> x.picture(0, 0) + x.all(), 1, 1);
        Edges.share("twelve years", x -> x.picture(88, 99) + x.all(), 12, 1);
        Edges.in(() -> {
            NamelessBox x = new NamelessBox();
            for (int p = 0; p < 4; p++) {
                x.picture(0, 11);
            }
            return x;
        });
        Edges.share("four of twelve years", x -> x.all(), 20736, 1);
        Edges.in(() -> {
            NamelessBox x = new NamelessBox();
            x.person(5, 7, 0, 0);
            x.strange(0);
            x.picture(0, 11);
            x.head(0, 0, 0, 0, 99);
            return x;
        });
        Edges.share("years in which he is not born or dead bring none", x -> x.all(), 12, 1);
        Edges.about(19, "for each NAME TRUTH, if it is SO, else 10 less TRUTH");
        int[][] byKind = {{6, 4}, {10, 0}, {7, 3}, {7, 3}, {0, 10}, {5, 5}};
        for (int kind = 0; kind <= 5; kind++) {
            int k = kind;
            Edges.in(() -> named(Edges.one(), k, 0, 0, 0));
            Edges.share("kind " + k, x -> x.all(), 4 * byKind[k][0] + 2 * byKind[k][1], 1);
        }
        Edges.about(19, "with EITHER: p or q; with NEVER: a STRANGER; else q does not count");
        int[][] whoByKind = {{6, 4, 4}, {10, 0, 0}, {7, 3, 3}, {7, 7, 3}, {0, 0, 10}, {5, 5, 5}};
        for (int kind = 0; kind <= 5; kind++) {
            int[] t = whoByKind[kind];
            int k = kind;
            Edges.in(() -> named(Edges.twins(), k, 0, 0, 1));
            Edges.share("kind " + k + ", p and q", x -> x.all(), 4 * t[0] + 4 * t[1] + 2 * t[2], 1);
        }
        Edges.about(19, "for each JOIN w, if both are the same PERSON, else 10 less w");
        for (int w : new int[] {0, 1, 5, 9, 10}) {
            Edges.in(() -> joined(Edges.apart(), 0, 1, w));
            Edges.share("w " + w, x -> x.all(), 16 * w + 20 * (10 - w), 1);
        }
        Edges.in(() -> strange(joined(Edges.apart(), 0, 1, 0), 0));
        Edges.refused("w 0 and no STRANGERS", x -> x.all(), NO);
        Edges.about(19, "1, if it is not 0; else NO");
        Edges.in(Edges::nothing);
        Edges.refused("all()", x -> x.all(), NO);
    }

    /** NO to all that goes by WAYS: ALL is 0; and BAD goes ahead of NO. */
    private static void allIsNothing() {
        Edges.in(Edges::nothing);
        Edges.about(16, "NO to all that goes by WAYS: ALL is 0");
        Edges.refused("who(0, 0)", x -> x.who(0, 0), NO);
        Edges.refused("who(2, NONE)", x -> x.who(2, NONE), NO);
        Edges.refused("named(0)", x -> x.named(0), NO);
        Edges.refused("best(0)", x -> x.best(0), NO);
        Edges.refused("all()", x -> x.all(), NO);
        Edges.refused("sure(0)", x -> x.sure(0), NO);
        Edges.refused("sure(100)", x -> x.sure(100), NO);
        Edges.refused("falls(0, 0)", x -> x.falls(0, 0), NO);
        Edges.refused("same(0, 2)", x -> x.same(0, 2), NO);
        Edges.refused("noneOf(0)", x -> x.noneOf(0), NO);
        Edges.refused("friend(0)", x -> x.friend(0), NO);
        Edges.refused("of(0, 0)", x -> x.of(0, 0), NO);
        Edges.refused("when(0, 40)", x -> x.when(0, 40), NO);
        Edges.refused("span(0, 0)", x -> x.span(0, 0), NO);
        Edges.refused("span(1, 1)", x -> x.span(1, 1), NO);
        Edges.refused("ahead(0, 1)", x -> x.ahead(0, 1), NO);
        Edges.refused("doubt(0, 1)", x -> x.doubt(0, 1), NO);
        Edges.refused("right()", x -> x.right(), NO);
        Edges.refused("ask(0)", x -> x.ask(0), NO);
        Edges.refused("next()", x -> x.next(), NO);
        Edges.about(16, "what does not go by WAYS answers still");
        Edges.answered("parts(0, 1)", x -> x.parts(0, 1), NONE);
        Edges.answered("like(0, -1, 40)", x -> x.like(0, NONE, 40), 24);
        Edges.answered("mark(0, 0)", x -> x.mark(0, 0), 1);
        Edges.answered("truth(2)", x -> x.truth(2), 10);
        Edges.about(16, "the first of: BAD, NO");
        Edges.refused("who", x -> x.who(3, 0), BAD);
        Edges.refused("who", x -> x.who(0, 2), BAD);
        Edges.refused("named", x -> x.named(3), BAD);
        Edges.refused("best", x -> x.best(3), BAD);
        Edges.refused("sure", x -> x.sure(101), BAD);
        Edges.refused("falls", x -> x.falls(101, 0), BAD);
        Edges.refused("falls", x -> x.falls(0, 3), BAD);
        Edges.refused("same", x -> x.same(1, 1), BAD);
        Edges.refused("noneOf", x -> x.noneOf(2), BAD);
        Edges.refused("friend", x -> x.friend(2), BAD);
        Edges.refused("of", x -> x.of(3, 0), BAD);
        Edges.refused("when", x -> x.when(0, 44), BAD);
        Edges.refused("span", x -> x.span(0, 2), BAD);
        Edges.refused("ahead", x -> x.ahead(1, 1), BAD);
        Edges.refused("doubt", x -> x.doubt(1, 1), BAD);
        Edges.refused("ask", x -> x.ask(3), BAD);
        Edges.about(16, "ALL is above 0 again");
        Edges.taken("from(0)", x -> x.from(0) * 0 + x.all(), 1);
    }

    private static void who() {
        Edges.about(16, "a HEAD that is there");
        Edges.in(Edges::some);
        Edges.taken("the first", x -> x.who(0, 0), 1);
        Edges.taken("the last", x -> x.who(2, 0), 1);
        Edges.badOutside("who of", 0, 2, v -> x -> x.who(v, 0));
        Edges.badOutside("a STRANGER of", 0, 2, v -> x -> x.who(v, NONE));
        Edges.about(16, "a PERSON that is there, or NONE");
        Edges.taken("the last", x -> x.who(0, 1), 1);
        Edges.taken("NONE", x -> x.who(0, NONE), 1);
        Edges.badOutside("who is", -1, 1, v -> x -> x.who(0, v));
        Edges.in(Edges::full);
        Edges.badOutside("who of", 0, 5, v -> x -> x.who(v, 0));
        Edges.badOutside("who is", -1, 4, v -> x -> x.who(0, v));
        Edges.refused("5 is no PERSON", x -> x.who(5, 5), BAD);
        Edges.about(16, "a share of 0 is 0 by 1, of all 1 by 1");
        Edges.in(() -> named(Edges.twins(), 1, 0, 1, 0));
        Edges.share("SURE", x -> x.who(0, 1), 1, 1);
        Edges.share("the other one", x -> x.who(0, 0), 0, 1);
        Edges.share("a STRANGER", x -> x.who(0, NONE), 0, 1);
        Edges.in(() -> named(Edges.twins(), 4, 0, 1, 0));
        Edges.share("NEVER", x -> x.who(0, NONE), 1, 1);
        Edges.share("NEVER", x -> x.who(0, 1), 0, 1);
        Edges.in(() -> people(0, 1));
        Edges.share("a STRANGER, without PEOPLE", x -> x.who(0, NONE), 1, 1);
        Edges.in(Edges::twins);
        Edges.share("lowest terms: 4 of 10", x -> x.who(0, 0), 2, 5);
        Edges.share("lowest terms: 2 of 10", x -> x.who(0, NONE), 1, 5);
    }

    private static void namedOne() {
        Edges.about(17, "a HEAD that is there");
        Edges.in(Edges::some);
        Edges.taken("the last", x -> x.named(2), 1);
        Edges.badOutside("named", 0, 2, v -> x -> x.named(v));
        Edges.in(Edges::full);
        Edges.badOutside("named", 0, 5, v -> x -> x.named(v));
        Edges.about(17, "the one with the greatest, of like ones the least PERSON, a STRANGER behind all");
        Edges.in(Edges::twins);
        Edges.taken("4, 4, 2", x -> x.named(0), 0);
        Edges.fraction("4, 4, 2", x -> x.named(0), 2, 5);
        Edges.in(() -> strange(Edges.one(), 2));
        Edges.taken("4, and 4 of a STRANGER", x -> x.named(0), 0);
        Edges.fraction("4, and 4 of a STRANGER", x -> x.named(0), 1, 2);
        Edges.in(() -> strange(Edges.one(), 3));
        Edges.taken("4, and 6 of a STRANGER", x -> x.named(0), STRANGER);
        Edges.fraction("4, and 6 of a STRANGER", x -> x.named(0), 3, 5);
        Edges.in(() -> strange(people(5, 1), 2));
        Edges.taken("5 PEOPLE and a STRANGER alike", x -> x.named(0), 0);
        Edges.fraction("5 PEOPLE and a STRANGER alike", x -> x.named(0), 1, 6);
        Edges.in(() -> strange(people(5, 1), 3));
        Edges.taken("5 PEOPLE alike, a STRANGER more", x -> x.named(0), STRANGER);
        Edges.in(() -> named(people(5, 1), 0, 0, 4, 4));
        Edges.taken("the last of five", x -> x.named(0), 4);
        Edges.fraction("24 of 24 + 4 x 16 + 8", x -> x.named(0), 1, 4);
        Edges.about(17, "5: a STRANGER, however many PEOPLE there are");
        Edges.in(() -> people(0, 1));
        Edges.taken("without PEOPLE", x -> x.named(0), STRANGER);
        Edges.fraction("without PEOPLE", x -> x.named(0), 1, 1);
    }

    private static void best() {
        Edges.about(18, "a HEAD that is there");
        Edges.in(Edges::some);
        Edges.answered("the last", x -> x.best(2), 1);
        Edges.badOutside("best", 0, 2, v -> x -> x.best(v));
        Edges.in(Edges::full);
        Edges.badOutside("best", 0, 5, v -> x -> x.best(v));
        Edges.about(18, "of like ones the first (HEAD 0 ahead, PEOPLE rising, a STRANGER behind all)");
        Edges.in(() -> people(2, 2));
        Edges.answered("0, 1 and 1, 0 alike", x -> x.best(0), 0);
        Edges.answered("0, 1 and 1, 0 alike", x -> x.best(1), 1);
        Edges.in(() -> strange(people(2, 2), 2));
        Edges.answered("all WAYS alike", x -> x.best(0), 0);
        Edges.answered("all WAYS alike", x -> x.best(1), 1);
        Edges.in(() -> strange(people(1, 2), 2));
        Edges.answered("HEAD 0 ahead", x -> x.best(0), 0);
        Edges.answered("HEAD 0 ahead", x -> x.best(1), STRANGER);
        Edges.in(() -> strange(people(1, 2), 3));
        Edges.answered("4 x 6, 6 x 6", x -> x.best(0), STRANGER);
        Edges.in(() -> strange(people(5, 6), 2));
        for (int head = 0; head < 6; head++) {
            int h = head;
            Edges.answered("six HEADS, all WAYS alike", x -> x.best(h), h < 5 ? h : STRANGER);
        }
        Edges.about(18, "the WAY with the greatest WEIGHT, not each HEAD's NAMED");
        // HEAD 1 is 0 surely more than HEAD 0 is, and 0 can not be both
        Edges.in(() -> named(people(1, 2), 2, 1, 0, 0));
        Edges.answered("HEAD 0", x -> x.best(0), STRANGER);
        Edges.answered("HEAD 1", x -> x.best(1), 0);
        // w 0: both 0, one 80, the other 80, none 40: each HEAD is a STRANGER by 120 of 200
        Edges.in(() -> joined(Edges.apart(), 0, 1, 0));
        Edges.answered("one of them: HEAD 0 ahead", x -> x.best(0), 0);
        Edges.answered("the other is a STRANGER", x -> x.best(1), STRANGER);
        Edges.taken("while HEAD 0 is NAMED a STRANGER", x -> x.named(0), STRANGER);
    }

    private static void sure() {
        Edges.about(20, "c (0 .. 100)");
        Edges.in(Edges::some);
        Edges.answered("0", x -> x.sure(0), 7);
        Edges.answered("100", x -> x.sure(100), 0);
        Edges.badOutside("sure", 0, 100, v -> x -> x.sure(v));
        Edges.about(20, "c of 100 at least");
        Edges.in(() -> strange(Edges.one(), 2));
        Edges.answered("a half by 50", x -> x.sure(50), 1);
        Edges.answered("a half by 51", x -> x.sure(51), 0);
        Edges.in(Edges::one);
        Edges.answered("2 of 3 by 66", x -> x.sure(66), 1);
        Edges.answered("2 of 3 by 67", x -> x.sure(67), 0);
        Edges.in(Edges::twins);
        Edges.answered("2 of 5 by 40", x -> x.sure(40), 1);
        Edges.answered("2 of 5 by 41", x -> x.sure(41), 0);
        Edges.about(20, "100: all of it");
        Edges.in(() -> named(Edges.one(), 1, 0, 0, 0));
        Edges.answered("all", x -> x.sure(100), 1);
        // LIKE is 324, and TRUTH 9 four times; a STRANGER's LIKE is 32, and 1 four times: 2125764 to 32
        Edges.in(WhoEdgesTest::allButSure);
        Edges.answered("nearly all, by 99", x -> x.sure(99), 1);
        Edges.answered("nearly all, by 100", x -> x.sure(100), 0);
        Edges.about(20, "HEADS (bits)");
        Edges.in(() -> people(0, 6));
        Edges.answered("all six", x -> x.sure(100), 63);
        Edges.in(() -> people(5, 0));
        Edges.answered("no HEADS", x -> x.sure(0), 0);
        Edges.in(NamelessBox::new);
        Edges.answered("nothing there", x -> x.sure(0), 0);
        Edges.in(() -> named(people(5, 6), 1, 5, 0, 0));
        Edges.answered("the sixth alone", x -> x.sure(100), 32);
    }

    private static NamelessBox allButSure() {
        NamelessBox x = new NamelessBox();
        x.person(0, 100, 15, 15);
        x.near(0, 4);
        x.picture(10, 10);
        x.head(0, 15, 15, 10, 10);
        for (int n = 0; n < 4; n++) {
            x.name(2, 0, 0, 0);
        }
        return x;
    }

    private static void falls() {
        Edges.about(21, "c (0 .. 100)");
        Edges.in(() -> named(Edges.one(), 1, 0, 0, 0));
        Edges.answered("0", x -> x.falls(0, 0), 0);
        Edges.answered("100", x -> x.falls(100, 0), 1);
        Edges.badOutside("falls by", 0, 100, v -> x -> x.falls(v, 0));
        Edges.about(21, "a NAME that is there");
        Edges.badOutside("falls with", 0, 0, v -> x -> x.falls(50, v));
        Edges.in(Edges::full);
        Edges.taken("the last", x -> x.falls(0, 3) >= 0 ? 1 : 0, 1);
        Edges.badOutside("falls with", 0, 3, v -> x -> x.falls(50, v));
        Edges.in(Edges::one);
        Edges.badOutside("without NAMES", 0, -1, v -> x -> x.falls(50, v));
        Edges.about(21, "without a NAME are not SURE: 2 of 3 by 66 is, by 67 not");
        Edges.in(() -> named(Edges.one(), 1, 0, 0, 0));
        Edges.answered("66", x -> x.falls(66, 0), 0);
        Edges.answered("67", x -> x.falls(67, 0), 1);
        Edges.about(21, "HEADS that are SURE by c: 3 of 4 by 75 is, by 76 not");
        Edges.in(() -> named(Edges.one(), 0, 0, 0, 0));
        Edges.answered("75", x -> x.falls(75, 0), 1);
        Edges.answered("76", x -> x.falls(76, 0), 0);
        Edges.about(21, "or have another NAMED");
        Edges.in(() -> named(Edges.one(), 4, 0, 0, 0));
        Edges.answered("a STRANGER, 0 without", x -> x.falls(0, 0), 1);
        Edges.in(() -> named(Edges.twins(), 1, 0, 1, 1));
        Edges.answered("1, 0 without, alike as they are", x -> x.falls(0, 0), 1);
        Edges.in(() -> named(Edges.twins(), 1, 0, 0, 0));
        Edges.answered("0, 0 without", x -> x.falls(0, 0), 0);
        Edges.answered("0 of twins by 40", x -> x.falls(40, 0), 0);
        Edges.answered("0 of twins by 41", x -> x.falls(41, 0), 1);
        Edges.about(21, "HEADS (bits)");
        Edges.in(() -> named(people(5, 6), 1, 5, 0, 0));
        Edges.answered("the sixth alone", x -> x.falls(100, 0), 32);
        fallsToNothing();
    }

    private static void fallsToNothing() {
        Edges.about(21, "NO: ALL is 0, with it or without it, too");
        Edges.in(() -> named(named(Edges.one(), 1, 0, 0, 0), 4, 0, 0, 0));
        Edges.refused("with it alone", x -> x.falls(0, 0), NO);
        Edges.refused("with it alone", x -> x.falls(0, 1), NO);
        Edges.in(() -> named(named(named(Edges.one(), 1, 0, 0, 0), 4, 0, 0, 0), 0, 0, 0, 0));
        Edges.refused("without it, too", x -> x.falls(0, 2), NO);
        Edges.refused("without it, too", x -> x.falls(100, 2), NO);
        Edges.about(21, "the NAME is there behind it");
        NamelessBox x = named(Edges.one(), 1, 0, 0, 0);
        x.falls(100, 0);
        Edges.due("sure(100)", x.sure(100), 1);
        Edges.due("count(3)", x.count(3), 1);
    }

    private static void same() {
        Edges.about(22, "two HEADS that are there");
        Edges.in(Edges::some);
        Edges.taken("first and last", x -> x.same(0, 2), 1);
        Edges.badOutside("a", 0, 2, v -> x -> x.same(v, 1));
        Edges.badOutside("b", 0, 2, v -> x -> x.same(1, v));
        Edges.about(22, "alike, too");
        Edges.refused("0, 0", x -> x.same(0, 0), BAD);
        Edges.refused("2, 2", x -> x.same(2, 2), BAD);
        Edges.in(Edges::full);
        Edges.badOutside("a", 0, 5, v -> x -> x.same(v, 1));
        Edges.badOutside("b", 0, 5, v -> x -> x.same(1, v));
        Edges.refused("5, 5", x -> x.same(5, 5), BAD);
        Edges.about(22, "on one PICTURE never");
        Edges.in(() -> people(2, 2));
        Edges.share("same(0, 1)", x -> x.same(0, 1), 0, 1);
        Edges.about(22, "two STRANGERS are not the same PERSON");
        Edges.in(Edges::apart);
        Edges.share("16 of 36", x -> x.same(0, 1), 4, 9);
        Edges.share("either way", x -> x.same(1, 0), 4, 9);
        Edges.in(() -> joined(Edges.apart(), 0, 1, 10));
        Edges.share("w 10", x -> x.same(0, 1), 1, 1);
        Edges.in(() -> joined(Edges.apart(), 0, 1, 0));
        Edges.share("w 0", x -> x.same(0, 1), 0, 1);
        Edges.in(() -> {
            NamelessBox x = people(0, 1);
            x.picture(1, 1);
            x.head(1, 0, 0, 0, 0);
            return x;
        });
        Edges.share("without PEOPLE", x -> x.same(0, 1), 0, 1);
        Edges.in(() -> {
            NamelessBox x = people(5, 1);
            x.picture(10, 10);
            x.head(1, 0, 0, 10, 10);
            return x;
        });
        // 5 x 16 of 22 x 22
        Edges.share("any of five", x -> x.same(0, 1), 20, 121);
    }

    private static void noneOf() {
        Edges.about(23, "a PERSON that is there");
        Edges.in(Edges::some);
        Edges.taken("the last", x -> x.noneOf(1), 1);
        Edges.badOutside("noneOf", 0, 1, v -> x -> x.noneOf(v));
        Edges.in(Edges::full);
        Edges.taken("the fifth", x -> x.noneOf(4), 1);
        Edges.badOutside("noneOf", 0, 4, v -> x -> x.noneOf(v));
        Edges.about(23, "on no PICTURE: 0 by 1, if he surely is on one, 1 by 1, if he can not be");
        Edges.in(() -> named(Edges.twins(), 1, 0, 1, 1));
        Edges.share("is there", x -> x.noneOf(1), 0, 1);
        Edges.share("is not there", x -> x.noneOf(0), 1, 1);
        Edges.in(Edges::apart);
        Edges.share("on neither of two", x -> x.noneOf(0), 1, 9);
        Edges.in(() -> people(1, 0));
        Edges.share("no HEADS", x -> x.noneOf(0), 1, 1);
        Edges.in(() -> people(5, 1));
        Edges.share("the first of five: 18 of 22", x -> x.noneOf(0), 9, 11);
        Edges.share("the last of five: 18 of 22", x -> x.noneOf(4), 9, 11);
    }

    private static void friend() {
        Edges.about(24, "a PERSON that is there");
        Edges.in(Edges::some);
        Edges.taken("the last", x -> x.friend(1), 1);
        Edges.badOutside("friend", 0, 1, v -> x -> x.friend(v));
        Edges.in(Edges::full);
        Edges.badOutside("friend", 0, 4, v -> x -> x.friend(v));
        Edges.about(24, "how many STRANGERS, in the mean: from none to five");
        Edges.in(() -> named(people(1, 6), 1, 0, 0, 0));
        Edges.share("five", x -> x.friend(0), 5, 1);
        Edges.in(() -> named(people(1, 1), 1, 0, 0, 0));
        Edges.share("alone", x -> x.friend(0), 0, 1);
        Edges.in(() -> people(1, 0));
        Edges.share("no HEADS", x -> x.friend(0), 0, 1);
        Edges.in(() -> named(Edges.apart(), 1, 0, 0, 0));
        Edges.share("a STRANGER on another PICTURE", x -> x.friend(0), 0, 1);
        Edges.in(() -> named(people(1, 2), 4, 0, 0, 0));
        // HEAD 1 is he by 4 of 6
        Edges.share("one, if he is there", x -> x.friend(0), 2, 3);
        Edges.in(WhoEdgesTest::twice);
        Edges.share("on two PICTURES with one each", x -> x.friend(0), 2, 1);
    }

    /** The only PERSON surely is on both PICTURES, with a STRANGER each. */
    private static NamelessBox twice() {
        NamelessBox x = people(1, 2);
        x.picture(10, 10);
        x.head(1, 0, 0, 10, 10);
        x.head(1, 0, 0, 10, 10);
        x.name(1, 0, 0, 0);
        x.name(1, 3, 0, 0);
        return x;
    }

    private static void of() {
        Edges.about(25, "a HEAD that is there");
        Edges.in(Edges::some);
        Edges.taken("the last", x -> x.of(2, 0), 1);
        Edges.badOutside("of HEAD", 0, 2, v -> x -> x.of(v, 0));
        Edges.about(25, "a PERSON that is there; NONE is none");
        Edges.taken("the last", x -> x.of(0, 1), 1);
        Edges.badOutside("of PERSON", 0, 1, v -> x -> x.of(0, v));
        Edges.in(Edges::full);
        Edges.badOutside("of HEAD", 0, 5, v -> x -> x.of(v, 0));
        Edges.badOutside("of PERSON", 0, 4, v -> x -> x.of(0, v));
        Edges.about(25, "it is a STRANGER and he is on its PICTURE");
        Edges.in(WhoEdgesTest::twice);
        Edges.share("surely", x -> x.of(1, 0), 1, 1);
        Edges.share("surely", x -> x.of(2, 0), 1, 1);
        Edges.share("it is himself", x -> x.of(0, 0), 0, 1);
        Edges.in(() -> named(Edges.apart(), 1, 0, 0, 0));
        Edges.share("on another PICTURE", x -> x.of(1, 0), 0, 1);
        Edges.in(() -> people(1, 1));
        Edges.share("alone", x -> x.of(0, 0), 0, 1);
        Edges.in(() -> named(people(1, 6), 1, 5, 0, 0));
        Edges.share("first and sixth", x -> x.of(0, 0), 1, 1);
        Edges.share("fifth and sixth", x -> x.of(4, 0), 1, 1);
    }

    public static void main(String[] args) {
        ways();
        allIsNothing();
        who();
        namedOne();
        best();
        sure();
        falls();
        same();
        noneOf();
        friend();
        of();
        Edges.done();
    }
}
