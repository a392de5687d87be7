import java.lang.reflect.Method;
import java.util.Random;

/** Runs of calls that a fixed seed chooses, each answer and each digest held against PlainBox. */
public final class RandomRunsTest {
    private static final String[] ITEMS = {"person", "parent", "near", "picture", "head", "name", "join", "strange"};
    private static final int[] NUMBERS = {4, 2, 2, 2, 5, 4, 3, 1};

    private final Random random;
    private final Pair pair = new Pair();

    private RandomRunsTest(long seed) {
        random = new Random(seed);
    }

    private int to(int n) {
        return random.nextInt(n + 1);
    }

    /** A box that may well be told: years lie close together, so that births, deaths and ages matter. */
    private void build(int people, int pictures, int heads) {
        int start = to(60);
        for (int p = 0; p < people; p++) {
            int born = start + to(30);
            int died = to(2) == 0 ? 100 : Math.min(100, born + to(40));
            pair.call("person", born, died, to(15), to(15) & to(15));
            if (p > 0 && to(1) == 0) {
                pair.call("parent", p, to(p - 1));
            }
            if (to(2) == 0) {
                pair.call("near", p, to(4));
            }
        }
        for (int p = 0; p < pictures; p++) {
            int from = Math.min(99, start + 10 + to(30));
            pair.call("picture", from, Math.min(99, from + to(to(2) == 0 ? 11 : 3)));
        }
        for (int h = 0; h < heads; h++) {
            int low = to(30);
            pair.call("head", to(pictures - 1), to(15), to(15), low, Math.min(99, low + to(15)));
        }
        for (int n = to(4); n > 0 && people > 0; n--) {
            pair.call("name", to(3) == 0 ? to(5) : to(2) * 2, to(heads - 1), to(people - 1), to(people - 1));
        }
        for (int n = to(4); n > 0; n--) {
            pair.call("join", to(heads - 1), to(heads - 1), to(10));
        }
        if (to(1) == 0) {
            pair.call("strange", to(9));
        }
    }

    /** What each number of a call is: h a HEAD, p a PERSON, i a PICTURE, n a NAME; others by their greatest value. */
    private static String kindsOf(String call) {
        switch (call) {
            case "who": case "of": return "hp";
            case "like": return "hpy";
            case "named": case "best": case "ask": return "h";
            case "sure": return "c";
            case "falls": return "cn";
            case "same": return "hh";
            case "noneOf": case "friend": return "p";
            case "when": return "iy";
            case "span": return "i1";
            case "ahead": return "ii";
            case "parts": case "doubt": case "parent": return "pp";
            case "near": return "p4";
            case "mark": return "p3";
            case "truth": return "n";
            case "join": return "hh9";
            case "name": return "5hpp";
            case "head": return "i99yy";
            case "person": return "yy99";
            case "picture": return "yy";
            case "strange": return "9";
            case "sign": return "2";
            case "limb": return "14";
            case "image": case "from": return "1";
            case "status": return "2";
            case "count": return "5";
            default: return "89";
        }
    }

    private long plausible(char kind) {
        PlainBox.State s = pair.plain.s;
        switch (kind) {
            case 'h': return to(Math.max(0, s.heads.size() - 1));
            case 'p': return to(9) == 0 ? -1 : to(Math.max(0, s.people.size() - 1));
            case 'i': return to(Math.max(0, s.pictures.size() - 1));
            case 'n': return to(Math.max(0, s.names.size() - 1));
            case 'c': return to(100);
            case 'y': return to(99);
            default: return to(kind - '0');
        }
    }

    private long argument(Method m, int i) {
        if (m.getParameterTypes()[i] == long.class) {
            return random.nextLong();
        }
        switch (to(39)) {
            case 0:
                return random.nextInt();
            case 1:
                return to(1) == 0 ? Integer.MAX_VALUE : Integer.MIN_VALUE;
            case 2:
                return to(110) - 5;
            case 3:
                return -1;
            case 4:
                return to(7);
            default:
                return plausible(kindsOf(m.getName()).charAt(i));
        }
    }

    private void askAnything(int calls, boolean dear) {
        for (int i = 0; i < calls && pair.same; i++) {
            Method m = Pair.CALLS.get(to(Pair.CALLS.size() - 1));
            boolean rare = m.getName().equals("read") || dear && (m.getName().equals("next") || m.getName().equals("ask"));
            if (rare && to(9) != 0) {
                continue;
            }
            long[] args = new long[m.getParameterCount()];
            for (int k = 0; k < args.length; k++) {
                args[k] = argument(m, k);
            }
            if (m.getName().equals("when") && to(3) != 0 && !pair.plain.s.pictures.isEmpty()) {
                int picture = to(pair.plain.s.pictures.size() - 1);
                args[0] = picture;
                args[1] = pair.plain.s.pictures.get(picture)[0] + to(12);
            }
            pair.call(m, args);
        }
    }

    /** ITEMS, some of them spoilt by a byte, blanks or a number. */
    private String text() {
        StringBuilder b = new StringBuilder();
        int items = to(10);
        for (int i = 0; i < items; i++) {
            int item = i < 2 ? 0 : i < 4 ? 3 : to(7);
            b.append(ITEMS[item]);
            for (int k = 0; k < NUMBERS[item]; k++) {
                b.append(" ".repeat(1 + (to(9) == 0 ? to(2) : 0)));
                b.append(item == 0 ? new int[] {to(9), 50 + to(50), to(15), to(15)}[k]
                        : item == 3 ? new int[] {9, 9 + to(4)}[k] : to(12) == 0 ? to(1100) : to(1));
            }
            b.append(to(9) == 0 ? " ;" : ";");
        }
        if (b.length() > 0 && to(2) == 0) {
            b.setCharAt(to(b.length() - 1), "a0; 9z\u0000\u00ff`{/:~".charAt(to(12)));
        }
        if (to(3) == 0) {
            b.setLength(to(b.length()));
        }
        if (b.length() > 300) {
            b.setLength(300);
        }
        return b.toString();
    }

    private void readSome(int times) {
        for (int i = 0; i < times && pair.same; i++) {
            pair.type(text());
            pair.call("read");
            pair.call("all");
            if (to(9) != 0) {
                pair.call("clear");
            }
        }
    }

    /** As great as WEIGHTS come, or nearly: the highest limbs count, too; and so does a crowd on one PICTURE. */
    private void askGreatOne(boolean crowd) {
        for (int p = 0; p < 4; p++) {
            pair.call("person", to(3), 100, 15, 15 - to(1));
            pair.call("near", p, 4);
            pair.call("picture", 20 + to(9), 31);
        }
        for (int h = 0; h < 6; h++) {
            pair.call("head", crowd ? (h == 2 ? to(1) : 0) : h < 4 ? h : to(3), 15, 15, 0, 99);
        }
        for (int n = 0; n < 4; n++) {
            pair.call("name", to(1) + 2, n == 0 ? 5 : to(5), to(3), to(3));
            pair.call("join", n, (n + 1) % 4, 8 + to(1));
        }
        pair.call("strange", 7 + to(2));
        for (int i = 0; i < 6; i++) {
            pair.call("named", i);
            pair.call("best", i);
        }
        pair.call("all");
        pair.call("right");
        pair.call("doubt", 0, 1);
        pair.call("doubt", 2, 3);
        pair.call("ahead", 0, 1);
        pair.call("same", 0, 1);
        pair.call("friend", 1);
        pair.call("falls", to(100), to(3));
        pair.call("sure", to(100));
        pair.call("next");
    }

    private static boolean fails(long seed, RandomRunsTest run) {
        if (!run.pair.same) {
            System.out.println("seed " + seed);
            run.pair.print();
        }
        return !run.pair.same;
    }

    public static void main(String[] args) {
        int wrong = 0;
        int runs = args.length > 0 ? Integer.parseInt(args[0]) : 1;
        for (long seed = 0; seed < 400L * runs && wrong < 3; seed++) {
            RandomRunsTest run = new RandomRunsTest(seed);
            run.build(run.to(4), 1 + run.to(3), 1 + run.to(3));
            run.askAnything(150, false);
            wrong += fails(seed, run) ? 1 : 0;
        }
        for (long seed = 0; seed < 20L * runs && wrong < 3; seed++) {
            RandomRunsTest run = new RandomRunsTest(1000000 + seed);
            run.build(2 + run.to(3), 1 + run.to(3), 5 + run.to(1));
            run.askAnything(40, true);
            wrong += fails(1000000 + seed, run) ? 1 : 0;
        }
        for (long seed = 0; seed < 300L * runs && wrong < 3; seed++) {
            RandomRunsTest run = new RandomRunsTest(2000000 + seed);
            run.readSome(8);
            run.askAnything(20, false);
            wrong += fails(2000000 + seed, run) ? 1 : 0;
        }
        for (long seed = 0; seed < 6L * runs && wrong < 3; seed++) {
            RandomRunsTest run = new RandomRunsTest(3000000 + seed);
            run.askGreatOne(seed % 2 == 1);
            wrong += fails(3000000 + seed, run) ? 1 : 0;
        }
        System.out.println(wrong == 0 ? "all runs are as the plain box tells" : wrong + " runs are not");
        if (wrong != 0) {
            System.exit(1);
        }
    }
}
