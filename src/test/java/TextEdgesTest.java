/** The boundary cases of promises 13 to 15: THE TEXT, its TOKENS and ITEMS, FAULTS, and ITEMS that are refused. */
public final class TextEdgesTest {
    private static final int BAD = Edges.BAD, FULL = Edges.FULL;

    /** A TEXT of n bytes. */
    private static NamelessBox bytes(int n) {
        return Edges.typed(new NamelessBox(), "x".repeat(n));
    }

    private static void type() {
        Edges.about(13, "the lowest n (1 .. 8) bytes");
        Edges.in(Edges::some);
        Edges.taken("1", x -> x.type(0x3b, 1), 26);
        Edges.taken("8", x -> x.type(0x3b, 8), 33);
        Edges.badOutside("n", 1, 8, v -> x -> x.type(0x3b, v));
        Edges.about(13, "how many it has; 300 bytes at most");
        int[][] rooms = {{299, 1}, {298, 2}, {292, 8}, {293, 7}};
        for (int[] r : rooms) {
            Edges.in(() -> bytes(r[0]));
            Edges.taken(r[0] + " and " + r[1], x -> x.type(0, r[1]), 300);
        }
        Edges.in(() -> bytes(0));
        Edges.taken("0 and 8", x -> x.type(0, 8), 8);
        int[][] tooMany = {{300, 1}, {300, 8}, {299, 2}, {293, 8}};
        for (int[] r : tooMany) {
            Edges.in(() -> bytes(r[0]));
            Edges.refused(r[0] + " and " + r[1], x -> x.type(0, r[1]), FULL);
        }
        Edges.in(Edges::full);
        Edges.about(13, "BAD ahead of FULL");
        Edges.badOutside("n", 1, 8, v -> x -> x.type(0x3b, v));
        Edges.about(13, "a TEXT that was full is empty behind clear()");
        Edges.taken("type", x -> x.clear() * 0 + x.type(0, 8), 8);
        highestFirst();
    }

    private static void highestFirst() {
        Edges.about(13, "the highest of them first");
        NamelessBox x = new NamelessBox();
        x.type(0x737472616e676520L, 8);
        x.type(0x7b7b7b7b7b7b393bL, 2);
        Edges.due("strange 9;", x.read(), 1);
        Edges.due("strange", x.strange(1), 9);
        Edges.about(13, "a byte is 0 .. 255, whatever v's sign");
        for (long v : new long[] {-1, Long.MIN_VALUE, 0xffL, 0x80L, 0}) {
            NamelessBox y = Edges.typed(new NamelessBox(), "strange 9;");
            Edges.due("type", y.type(v, 1), 11);
            Edges.due("FAULT", y.read(), -20);
        }
        NamelessBox z = Edges.typed(new NamelessBox(), "strange ");
        z.type(-256 + '8', 1);
        z.type(Long.MIN_VALUE + ';', 1);
        Edges.due("only the lowest count", z.read(), 1);
        Edges.due("strange", z.strange(1), 8);
        NamelessBox w = Edges.typed(new NamelessBox(), "strange 9;");
        w.type(0x8000000000000020L, 8);
        Edges.due("the highest byte of eight", w.read(), -20);
    }

    private static void clear() {
        Edges.about(14, "THE TEXT is empty: how many it had");
        Edges.in(NamelessBox::new);
        Edges.answered("an empty one", x -> x.clear(), 0);
        Edges.in(() -> bytes(1));
        Edges.taken("one of 1", x -> x.clear(), 1);
        Edges.in(Edges::full);
        Edges.taken("a full one", x -> x.clear(), 300);
        Edges.taken("twice", x -> x.clear() * 0 + x.clear(), 0);
        Edges.taken("count(5)", x -> x.clear() * 0 + x.count(5), 0);
        Edges.taken("read() behind it", x -> x.clear() * 0 + x.read(), 0);
        Edges.about(14, "nothing of it is left behind");
        NamelessBox x = Edges.typed(new NamelessBox(), "strange 9;strange 8;");
        x.clear();
        Edges.typed(x, "strange 7;");
        Edges.due("read()", x.read(), 1);
        Edges.due("strange", x.strange(1), 7);
        Edges.about(14, "the box stays");
        NamelessBox y = Edges.some();
        y.clear();
        Edges.due("count(0)", y.count(0), 2);
        Edges.due("count(2)", y.count(2), 3);
    }

    /** Reads a TEXT into some(): what it answers; below 0 nothing changes, and STATUS never does. */
    private static void reads(String text, int answer) {
        Edges.in(() -> {
            NamelessBox x = Edges.some();
            x.clear();
            return Edges.typed(x, text);
        });
        if (answer < 0) {
            Edges.answered("'" + text + "'", x -> x.read(), answer);
        } else {
            Edges.taken("'" + text + "'", x -> x.read(), answer);
        }
    }

    private static void emptyAndFull() {
        Edges.about(15, "(an empty one: none)");
        reads("", 0);
        Edges.in(Edges::some);
        Edges.taken("an empty TEXT tells an empty box", x -> x.clear() * 0 + x.read() + x.count(0) + x.count(1) + x.count(2)
                + x.count(3) + x.count(4), 0);
        Edges.taken("STRANGE is 1 behind it", x -> x.clear() * 0 + x.read() + x.strange(5), 1);
        Edges.about(15, "blanks alone are no ITEMS");
        reads(" ", 0);
        reads(" ".repeat(300), 0);
        Edges.about(15, "THE TEXT is 300 bytes at most");
        reads("strange 4;".repeat(30), 30);
        reads("strange4;".repeat(33) + "   ", 33);
        reads(" ".repeat(290) + "strange 4;", 1);
        reads("strange 4;" + " ".repeat(290), 1);
        reads("strange" + " ".repeat(291) + "4;", 1);
        reads("strange 4;".repeat(29) + "strange  4", -310);
        reads("strange 4;".repeat(29) + " strange 4", -310);
        reads("strange 4;".repeat(29) + "strange 4-", -309);
        reads("strange 4;".repeat(29) + "strange 44", -310);
        reads("strange 4;".repeat(29) + "         x", -309);
        reads("strange 4;".repeat(29) + "strange10;", -1029);
        reads("x".repeat(300), -10);
        reads("1".repeat(300), -10);
        reads(";".repeat(300), -10);
        reads(" ".repeat(299) + "1", -309);
    }

    private static void ends() {
        Edges.about(15, "the TEXT's length, if it ends too early");
        String item = "head 0 0 0 0 0;";
        for (int n = 4; n < item.length(); n++) {
            reads(item.substring(0, n), -10 - n);
        }
        reads("near", -14);
        reads("near ", -15);
        reads("near 0", -16);
        reads("near 0 ", -17);
        reads("near 0 1", -18);
        reads("near 0 1   ", -21);
        reads("strange 4;s", -20);
        reads("strange 4; strange", -28);
        Edges.about(15, "a word that is none, at the end, is that FAULT");
        reads("p", -10);
        reads("strange 4;strang", -20);
    }

    private static void words() {
        Edges.about(15, "a word that is none");
        String[] words = {"person", "parent", "near", "picture", "head", "name", "join", "strange"};
        for (String w : words) {
            reads(w + "s 0 0 0 0 0;", -10);
            reads(w.substring(0, w.length() - 1) + " 0 0 0 0 0;", -10);
            reads(w.substring(1) + " 0 0 0 0 0;", -10);
            reads("a" + w + " 0 0 0 0 0;", -10);
            reads(Character.toUpperCase(w.charAt(0)) + w.substring(1) + " 0 0 0 0 0;", -10);
            reads("strange 1;" + w.replace(w.charAt(w.length() - 1), 'q') + " 0 0 0 0 0;", -20);
        }
        Edges.about(15, "words of letters a .. z: the bytes beside these begin none");
        reads("`", -10);
        reads("{", -10);
        reads("strange`4;", -17);
        reads("strange{4;", -17);
        reads("stranga 4;", -10);
        reads("strangz 4;", -10);
        reads("zear 0 0;", -10);
        reads("strangea 4;", -10);
        reads("strangez 4;", -10);
        reads("strange4z;", -18);
        reads("strange4a;", -18);
        reads("nea`r 0 0;", -10);
        Edges.about(15, "TOKENS that can not stand there");
        reads("4 strange;", -10);
        reads(";strange 4;", -10);
        reads("strange strange 4;", -18);
        reads("strange ;", -18);
        reads("strange;", -17);
        reads("strange 4 5;", -20);
        reads("strange 4 strange 5;", -20);
        reads("strange 4;;", -20);
        reads("strange 4;4;", -20);
    }

    /** One number too few, just as many, one too many, of each ITEM. */
    private static void numbers() {
        Edges.about(15, "each ITEM has its own numbers");
        String[] ahead = {"", "person 1 9 0 0;person 3 9 0 0;", "person 1 9 0 0;", "", "picture 1 9;",
            "person 1 9 0 0;picture 1 9;head 0 0 0 0 0;", "picture 1 9;picture 1 9;head 0 0 0 0 0;head 1 0 0 0 0;", ""};
        String[] items = {"person 1 2 3 4", "parent 1 0", "near 0 1", "picture 1 2", "head 0 1 2 3 4", "name 0 0 0 0",
            "join 0 1 2", "strange 4"};
        int[] itemsAhead = {0, 2, 1, 0, 1, 3, 4, 0};
        for (int i = 0; i < items.length; i++) {
            String item = items[i];
            int start = ahead[i].length();
            int lastNumber = item.lastIndexOf(' ');
            reads(ahead[i] + item + ";", itemsAhead[i] + 1);
            reads(ahead[i] + item.substring(0, lastNumber) + ";", -10 - start - lastNumber);
            reads(ahead[i] + item + " 0;", -10 - start - item.length() - 1);
            reads(ahead[i] + item, -10 - start - item.length());
        }
        Edges.about(15, "figures (1 to 3 are one number)");
        reads("strange 4;", 1);
        reads("strange 04;", 1);
        reads("strange 004;", 1);
        reads("strange 0004;", -18);
        reads("strange 4000;", -18);
        reads("strange 00004;", -18);
        reads("strange 0004", -18);
        reads("picture 1 0002;", -20);
        reads("picture 000 011;", 1);
        reads("strange 000;", 1);
        reads("strange 999;", -1000);
        reads("picture 99 99;", 1);
        reads("person 99 100 15 15;", 1);
        Edges.about(15, "figures are 0 .. 9: the bytes beside these begin none");
        reads("strange 0;", 1);
        reads("strange 9;", 1);
        reads("strange /;", -18);
        reads("strange :;", -18);
        reads("strange 4/;", -19);
        reads("strange 4:;", -19);
        reads("strange -4;", -18);
        reads("strange +4;", -18);
        reads("strange 4.;", -19);
    }

    private static void blanks() {
        Edges.about(15, "blanks (32) between");
        reads("  strange  4  ;  strange  5  ;  ", 2);
        reads("strange4;strange5;", 2);
        reads("near0 1;", -1000);
        reads("picture 1  2 ;", 1);
        reads("picture 12;", -20);
        reads("strange 0 4;", -20);
        reads("stran ge 4;", -10);
        Edges.about(15, "a byte that begins none: all but blanks, letters, figures and ;");
        for (int b = 0; b < 256; b++) {
            boolean begins = b == ' ' || b == ';' || b >= 'a' && b <= 'z' || b >= '0' && b <= '9';
            if (!begins) {
                Edges.due("byte " + b + " for a word", Edges.typed(new NamelessBox(), (char) b + ";").read(), -10);
                Edges.due("byte " + b + " for a number", Edges.typed(new NamelessBox(), "strange " + (char) b).read(), -18);
                Edges.due("byte " + b + " in a number", Edges.typed(new NamelessBox(), "strange 1" + (char) b + "1;").read(),
                        -19);
                Edges.due("byte " + b + " for ;", Edges.typed(new NamelessBox(), "strange 1" + (char) b).read(), -19);
                Edges.due("byte " + b + " at last", Edges.typed(new NamelessBox(), "strange 1;" + (char) b).read(), -20);
                Edges.due("byte " + b + " in a word", Edges.typed(new NamelessBox(), "strange" + (char) b + "4;").read(), -17);
            }
        }
    }

    private static void refusals() {
        Edges.about(15, "the first ITEM that is refused (as its call is): nothing changes");
        String person = "person 5 9 0 0;";
        String picture = "picture 5 9;";
        String head = "head 0 0 0 0 0;";
        reads("person 100 100 0 0;", -1000);
        reads("person 5 4 0 0;", -1000);
        reads("person 5 101 0 0;", -1000);
        reads("person 5 9 16 0;", -1000);
        reads("person 5 9 0 16;", -1000);
        reads(person.repeat(5), 5);
        reads(person.repeat(6), -1005);
        reads("person 4 5 0 0;" + person + "parent 1 0;", 3);
        reads("person 4 4 0 0;" + person + "parent 1 0;", -1002);
        reads("person 5 5 0 0;" + person + "parent 1 0;", -1002);
        reads("person 4 5 0 0;" + person + "parent 1 1;", -1002);
        reads("person 4 5 0 0;" + person + "parent 2 0;", -1002);
        reads("person 4 5 0 0;" + person + "parent 1 2;", -1002);
        reads(person + "near 0 0;near 0 4;", 3);
        reads(person + "near 0 5;", -1001);
        reads(person + "near 1 4;", -1001);
        reads("near 0 2;" + person, -1000);
        reads("picture 0 11;picture 88 99;", 2);
        reads("picture 0 12;", -1000);
        reads("picture 99 100;", -1000);
        reads("picture 5 4;", -1000);
        reads(picture.repeat(4), 4);
        reads(picture.repeat(5), -1004);
        reads(picture + "head 0 15 15 0 99;", 2);
        reads(picture + "head 1 0 0 0 0;", -1001);
        reads(picture + "head 0 16 0 0 0;", -1001);
        reads(picture + "head 0 0 16 0 0;", -1001);
        reads(picture + "head 0 0 0 9 8;", -1001);
        reads(picture + "head 0 0 0 0 100;", -1001);
        reads(picture + head.repeat(6), 7);
        reads(picture + head.repeat(7), -1007);
        reads(head + picture, -1000);
        nameAndJoin(person, picture, head);
        reads("strange 9;strange 0;", 2);
        reads("strange 9;strange 10;", -1001);
        reads("strange 9;strange 10;strange 10;", -1001);
        reads("strange 9;".repeat(28) + "strange 10;", -1028);
    }

    private static void nameAndJoin(String person, String picture, String head) {
        reads(person + picture + head + "name 5 0 0 0;", 4);
        reads(person + picture + head + "name 6 0 0 0;", -1003);
        reads(person + picture + head + "name 0 1 0 0;", -1003);
        reads(person + picture + head + "name 0 0 1 0;", -1003);
        reads(person + picture + head + "name 0 0 0 1;", -1003);
        reads(person + picture + head + "name 0 0 0 0;".repeat(4), 7);
        reads(person + picture + head + "name 0 0 0 0;".repeat(5), -1007);
        String two = picture + picture + head + "head 1 0 0 0 0;";
        reads(two + "join 0 1 0;join 1 0 10;", 6);
        reads(two + "join 0 1 11;", -1004);
        reads(two + "join 0 2 1;", -1004);
        reads(two + "join 2 0 1;", -1004);
        reads(two + "join 1 1 1;", -1004);
        reads(picture + head + head + "join 0 1 1;", -1003);
        reads(two + "join 0 1 1;".repeat(4), 8);
        reads(two + "join 0 1 1;".repeat(5), -1008);
        Edges.about(15, "a FAULT, wherever it is, goes ahead of an ITEM that is refused");
        reads("strange 10;strange", -10 - 18);
        reads("strange 10;x", -10 - 11);
        reads("x;strange 10;", -10);
    }

    private static void toldAnew() {
        Edges.about(15, "told anew by these alone: what was there before does not count");
        Edges.in(Edges::full);
        Edges.taken("a full box", x -> read(x, "person 1 2 3 4;"), 1);
        Edges.taken("a full box is not FULL", x -> read(x, "person 5 9 0 0;".repeat(5)), 5);
        Edges.taken("HEADS that were there", x -> read(x, "join 0 2 5;"), -1000);
        Edges.taken("PEOPLE that were there", x -> read(x, "near 0 2;"), -1000);
        NamelessBox x = Edges.full();
        x.all();
        String text = "person 1 2 3 4;picture 5 6;";
        Edges.due("read()", read(x, text), 2);
        String was = Edges.fractionOf(x);
        Edges.about(15, "THE TEXT, THE FRACTION and IMAGES stay");
        Edges.due("count(5)", x.count(5), text.length());
        Edges.due("read() again", x.read(), 2);
        Edges.due("count(0)", x.count(0), 1);
        Edges.same("THE FRACTION", Edges.fractionOf(x), was);
        Edges.due("from(1)", x.from(1), 1);
        Edges.due("PEOPLE of the IMAGE", x.count(0), 2);
        Edges.due("from(0)", x.from(0), 1);
        Edges.due("PEOPLE of the IMAGE", x.count(0), 1);
        Edges.about(15, "WAYS go by what was read");
        NamelessBox y = Edges.some();
        y.all();
        read(y, "picture 5 6;");
        y.all();
        Edges.same("ALL", Edges.fractionOf(y), "2 by 1");
        Edges.about(15, "STRANGE is 1 again, whatever a TEXT that was read ahead told");
        NamelessBox v = new NamelessBox();
        read(v, "strange 9;person 1 2 3 4;near 0 4;");
        read(v, "person 1 2 3 4;");
        Edges.due("STRANGE", v.strange(8), 1);
        Edges.due("NEAR", v.near(0, 3), 2);
        read(v, "strange 7;strange 10;");
        Edges.due("STRANGE, behind one that was refused", v.strange(8), 8);
        read(v, "");
        Edges.due("STRANGE, behind an empty one", v.strange(8), 1);
        Edges.about(15, "refused by its last ITEM: none of those ahead of it has come");
        NamelessBox z = Edges.some();
        z.clear();
        Edges.typed(z, "person 1 2 3 4;picture 5 6;strange 9;strange 10;");
        long before = z.digest();
        Edges.due("read()", z.read(), -1003);
        Edges.due("digest()", z.digest(), before);
        Edges.due("nothing counts", z.status(0) + z.status(1) + z.status(2), 0);
    }

    private static int read(NamelessBox x, String text) {
        x.clear();
        return Edges.typed(x, text).read();
    }

    public static void main(String[] args) {
        type();
        clear();
        emptyAndFull();
        ends();
        words();
        numbers();
        blanks();
        refusals();
        toldAnew();
        Edges.done();
    }
}
