import java.math.BigInteger;
import java.util.ArrayList;
import java.util.Arrays;
import java.util.List;
import java.util.regex.Matcher;
import java.util.regex.Pattern;

/**
 * The document once more, in the plainest form: lists, whole numbers of any length, every WAY written out.
 * Tests hold NamelessBox against it.
 */
final class PlainBox {
    static final int NONE = -1, BAD = -2, NO = -3, FULL = -4, STRANGER = 5;

    static final class State {
        List<int[]> people = new ArrayList<>();
        List<int[]> pictures = new ArrayList<>();
        List<int[]> heads = new ArrayList<>();
        List<int[]> names = new ArrayList<>();
        List<int[]> joins = new ArrayList<>();
        int strange = 1;

        State copy() {
            State s = new State();
            people.forEach(r -> s.people.add(r.clone()));
            pictures.forEach(r -> s.pictures.add(r.clone()));
            heads.forEach(r -> s.heads.add(r.clone()));
            names.forEach(r -> s.names.add(r.clone()));
            joins.forEach(r -> s.joins.add(r.clone()));
            s.strange = strange;
            return s;
        }
    }

    /** One WAY: who each HEAD is, of each PICTURE each year's LIKES multiplied, and what NAMES and JOINS bring. */
    static final class Way {
        int[] who;
        BigInteger[][] years;
        BigInteger told;
        private BigInteger weight;

        BigInteger weight() {
            if (weight == null) {
                weight = told;
                for (BigInteger[] y : years) {
                    weight = weight.multiply(sum(y));
                }
            }
            return weight;
        }
    }

    State s = new State();
    State[] images = new State[2];
    StringBuilder text = new StringBuilder();
    int[] refusals = new int[3];
    BigInteger above = BigInteger.ZERO, below = BigInteger.ONE;
    private List<Way> cached;

    static BigInteger sum(BigInteger[] a) {
        BigInteger t = BigInteger.ZERO;
        for (BigInteger x : a) {
            t = t.add(x);
        }
        return t;
    }

    private int refuse(int a) {
        refusals[-2 - a]++;
        return a;
    }

    private static boolean in(int v, int lo, int hi) {
        return lo <= v && v <= hi;
    }

    private static boolean has(List<int[]> l, int i) {
        return in(i, 0, l.size() - 1);
    }

    // ---- a box

    int person(int born, int died, int marks, int known) {
        int a = person(s, born, died, marks, known);
        return counted(a);
    }

    private int counted(int a) {
        if (a < -1) {
            refuse(a == -10 ? BAD : a);
        } else {
            cached = null;
        }
        return a;
    }

    private static int person(State s, int born, int died, int marks, int known) {
        boolean bad = !in(born, 0, 99) || !(died == 100 || in(died, born, 99)) || !in(marks, 0, 15) || !in(known, 0, 15);
        return bad ? BAD : add(s.people, 5, born, died, marks, known, NONE, 2);
    }

    private static int add(List<int[]> l, int limit, int... row) {
        if (l.size() == limit) {
            return FULL;
        }
        l.add(row);
        return l.size() - 1;
    }

    int parent(int p, int q) {
        return counted(parent(s, p, q));
    }

    private static int parent(State s, int p, int q) {
        if (!has(s.people, p)) {
            return -10;
        }
        int[] child = s.people.get(p);
        if (q != NONE) {
            if (!in(q, 0, p - 1)) {
                return -10;
            }
            int[] older = s.people.get(q);
            if (older[0] >= child[0] || older[1] < child[0]) {
                return -10;
            }
        }
        int was = child[4];
        child[4] = q;
        return was;
    }

    int near(int p, int v) {
        return counted(near(s, p, v));
    }

    private static int near(State s, int p, int v) {
        if (!has(s.people, p) || !in(v, 0, 4)) {
            return BAD;
        }
        int was = s.people.get(p)[5];
        s.people.get(p)[5] = v;
        return was;
    }

    int picture(int from, int to) {
        return counted(picture(s, from, to));
    }

    private static int picture(State s, int from, int to) {
        return !in(from, 0, 99) || !in(to, from, Math.min(99, from + 11)) ? BAD : add(s.pictures, 4, from, to);
    }

    int head(int pic, int marks, int seen, int low, int high) {
        return counted(head(s, pic, marks, seen, low, high));
    }

    private static int head(State s, int pic, int marks, int seen, int low, int high) {
        boolean bad = !has(s.pictures, pic) || !in(marks, 0, 15) || !in(seen, 0, 15) || !in(low, 0, 99) || !in(high, low, 99);
        return bad ? BAD : add(s.heads, 6, pic, marks, seen, low, high);
    }

    int name(int kind, int head, int p, int q) {
        return counted(name(s, kind, head, p, q));
    }

    private static int name(State s, int kind, int head, int p, int q) {
        boolean bad = !in(kind, 0, 5) || !has(s.heads, head) || !has(s.people, p) || !has(s.people, q);
        return bad ? BAD : add(s.names, 4, kind, head, p, q);
    }

    int join(int a, int b, int w) {
        return counted(join(s, a, b, w));
    }

    private static int join(State s, int a, int b, int w) {
        boolean bad = !has(s.heads, a) || !has(s.heads, b) || !in(w, 0, 10) || s.heads.get(a)[0] == s.heads.get(b)[0];
        return bad ? BAD : add(s.joins, 4, a, b, w);
    }

    int strange(int v) {
        return counted(strange(s, v));
    }

    private static int strange(State s, int v) {
        if (!in(v, 0, 9)) {
            return BAD;
        }
        int was = s.strange;
        s.strange = v;
        return was;
    }

    int mark(int p, int m) {
        return has(s.people, p) && in(m, 0, 3) ? markOf(p, m) : refuse(BAD);
    }

    private int markOf(int p, int m) {
        if (p == NONE) {
            return NONE;
        }
        int[] r = s.people.get(p);
        return (r[3] & 1 << m) != 0 ? r[2] >> m & 1 : markOf(r[4], m);
    }

    int like(int h, int p, int year) {
        if (!has(s.heads, h) || !(p == NONE || has(s.people, p)) || !in(year, 0, 99)) {
            return refuse(BAD);
        }
        return likeOf(h, p == NONE ? STRANGER : p, year);
    }

    private int likeOf(int h, int who, int year) {
        int[] head = s.heads.get(h);
        int seen = Integer.bitCount(head[2]);
        if (who == STRANGER) {
            return s.strange * 2 << seen;
        }
        int[] r = s.people.get(who);
        if (year < r[0] || r[1] < year) {
            return 0;
        }
        int age = year - r[0];
        int off = age < head[3] ? head[3] - age : age > head[4] ? age - head[4] : 0;
        int v = off == 0 ? 4 : off <= 5 ? 2 : 1;
        for (int m = 0; m < 4; m++) {
            if ((head[2] & 1 << m) != 0) {
                int his = markOf(who, m);
                v *= his == NONE ? 2 : his == (head[1] >> m & 1) ? 3 : 1;
            }
        }
        return v;
    }

    int truth(int n) {
        return has(s.names, n) ? truthOf(s.names.get(n)) : refuse(BAD);
    }

    private int truthOf(int[] n) {
        int told = 5 + s.people.get(n[2])[5];
        return new int[] {6, 10, told, told, 10, told - 2}[n[0]];
    }

    private static boolean isSo(int[] n, int who) {
        if (n[0] == 4) {
            return who == STRANGER;
        }
        return who == n[2] || n[0] == 3 && who == n[3];
    }

    int type(long v, int n) {
        if (!in(n, 1, 8)) {
            return refuse(BAD);
        }
        if (text.length() + n > 300) {
            return refuse(FULL);
        }
        for (int i = n - 1; i >= 0; i--) {
            text.append((char) (v >>> 8 * i & 255));
        }
        return text.length();
    }

    int clear() {
        int n = text.length();
        text.setLength(0);
        return n;
    }

    private static final Pattern TOKEN = Pattern.compile("[a-z]+|[0-9]+|[^ ]", Pattern.DOTALL);
    private static final List<String> WORDS =
            List.of("person", "parent", "near", "picture", "head", "name", "join", "strange");
    private static final int[] NUMBERS = {4, 2, 2, 2, 5, 4, 3, 1};

    int read() {
        List<int[]> items = new ArrayList<>();
        int[] item = null;
        int filled = 0;
        Matcher m = TOKEN.matcher(text);
        while (m.find()) {
            String t = m.group();
            boolean fits;
            if (item == null) {
                fits = WORDS.contains(t);
                if (fits) {
                    int w = WORDS.indexOf(t);
                    item = new int[1 + NUMBERS[w]];
                    item[0] = w;
                    filled = 1;
                }
            } else if (filled < item.length) {
                fits = t.matches("[0-9]{1,3}");
                if (fits) {
                    item[filled++] = Integer.parseInt(t);
                }
            } else {
                fits = t.equals(";");
                items.add(item);
                item = null;
            }
            if (!fits) {
                return -10 - m.start();
            }
        }
        if (item != null) {
            return -10 - text.length();
        }
        State anew = new State();
        for (int i = 0; i < items.size(); i++) {
            if (tell(anew, items.get(i)) < -1) {
                return -1000 - i;
            }
        }
        s = anew;
        cached = null;
        return items.size();
    }

    private static int tell(State s, int[] n) {
        return switch (n[0]) {
            case 0 -> person(s, n[1], n[2], n[3], n[4]);
            case 1 -> parent(s, n[1], n[2]);
            case 2 -> near(s, n[1], n[2]);
            case 3 -> picture(s, n[1], n[2]);
            case 4 -> head(s, n[1], n[2], n[3], n[4], n[5]);
            case 5 -> name(s, n[1], n[2], n[3], n[4]);
            case 6 -> join(s, n[1], n[2], n[3]);
            default -> strange(s, n[1]);
        };
    }

    // ---- the WAYS

    private List<Way> ways() {
        if (cached == null) {
            cached = waysWithout(NONE);
        }
        return cached;
    }

    private List<Way> waysWithout(int skipped) {
        List<Way> all = new ArrayList<>();
        int base = s.people.size() + 1;
        int n = s.heads.size();
        long count = 1;
        for (int i = 0; i < n; i++) {
            count *= base;
        }
        for (long code = 0; code < count; code++) {
            int[] who = new int[n];
            long rest = code;
            for (int h = n - 1; h >= 0; h--) {
                int v = (int) (rest % base);
                who[h] = v == base - 1 ? STRANGER : v;
                rest /= base;
            }
            Way w = wayOf(who, skipped);
            if (w != null) {
                all.add(w);
            }
        }
        return all;
    }

    private Way wayOf(int[] who, int skipped) {
        for (int a = 0; a < who.length; a++) {
            for (int b = 0; b < a; b++) {
                if (who[a] == who[b] && who[a] != STRANGER && s.heads.get(a)[0] == s.heads.get(b)[0]) {
                    return null;
                }
            }
        }
        Way w = new Way();
        w.who = who;
        w.told = BigInteger.ONE;
        for (int i = 0; i < s.names.size(); i++) {
            if (i != skipped) {
                int[] n = s.names.get(i);
                int t = truthOf(n);
                w.told = w.told.multiply(BigInteger.valueOf(isSo(n, who[n[1]]) ? t : 10 - t));
            }
        }
        for (int[] j : s.joins) {
            boolean same = who[j[0]] == who[j[1]] && who[j[0]] != STRANGER;
            w.told = w.told.multiply(BigInteger.valueOf(same ? j[2] : 10 - j[2]));
        }
        w.years = new BigInteger[s.pictures.size()][];
        for (int p = 0; p < w.years.length; p++) {
            int[] pic = s.pictures.get(p);
            w.years[p] = new BigInteger[pic[1] - pic[0] + 1];
            for (int y = pic[0]; y <= pic[1]; y++) {
                long product = 1;
                for (int h = 0; h < who.length; h++) {
                    if (s.heads.get(h)[0] == p) {
                        product *= likeOf(h, who[h], y);
                    }
                }
                w.years[p][y - pic[0]] = BigInteger.valueOf(product);
            }
        }
        return w;
    }

    interface Weigh {
        BigInteger of(Way w);
    }

    private static BigInteger total(List<Way> ways, Weigh f) {
        BigInteger t = BigInteger.ZERO;
        for (Way w : ways) {
            t = t.add(f.of(w));
        }
        return t;
    }

    private BigInteger allOf() {
        return total(ways(), Way::weight);
    }

    interface Test {
        boolean holds(Way w);
    }

    private static BigInteger where(List<Way> ways, Test t) {
        return total(ways, w -> t.holds(w) ? w.weight() : BigInteger.ZERO);
    }

    private boolean nothing() {
        return allOf().signum() == 0;
    }

    private int fraction(BigInteger a, BigInteger b) {
        BigInteger g = a.gcd(b);
        above = a.divide(g);
        below = b.divide(g);
        return 1;
    }

    private List<Integer> whos() {
        List<Integer> l = new ArrayList<>();
        for (int p = 0; p < s.people.size(); p++) {
            l.add(p);
        }
        l.add(STRANGER);
        return l;
    }

    private int namedBy(List<Way> ways, int h) {
        int best = NONE;
        BigInteger most = BigInteger.valueOf(-1);
        for (int v : whos()) {
            BigInteger share = where(ways, w -> w.who[h] == v);
            if (share.compareTo(most) > 0) {
                most = share;
                best = v;
            }
        }
        return best;
    }

    private BigInteger shareOf(List<Way> ways, int h, int v) {
        return where(ways, w -> w.who[h] == v);
    }

    // ---- who is who

    int who(int h, int p) {
        if (!has(s.heads, h) || !(p == NONE || has(s.people, p))) {
            return refuse(BAD);
        }
        if (nothing()) {
            return refuse(NO);
        }
        return fraction(shareOf(ways(), h, p == NONE ? STRANGER : p), allOf());
    }

    int named(int h) {
        if (!has(s.heads, h)) {
            return refuse(BAD);
        }
        if (nothing()) {
            return refuse(NO);
        }
        int v = namedBy(ways(), h);
        fraction(shareOf(ways(), h, v), allOf());
        return v;
    }

    int best(int h) {
        if (!has(s.heads, h)) {
            return refuse(BAD);
        }
        if (nothing()) {
            return refuse(NO);
        }
        Way best = null;
        for (Way w : ways()) {
            if (best == null || w.weight().compareTo(best.weight()) > 0) {
                best = w;
            }
        }
        return best.who[h];
    }

    int all() {
        if (nothing()) {
            return refuse(NO);
        }
        return fraction(allOf(), BigInteger.ONE);
    }

    private boolean isSure(List<Way> ways, int h, int c) {
        BigInteger hundred = shareOf(ways, h, namedBy(ways, h)).multiply(BigInteger.valueOf(100));
        return hundred.compareTo(total(ways, Way::weight).multiply(BigInteger.valueOf(c))) >= 0;
    }

    int sure(int c) {
        if (!in(c, 0, 100)) {
            return refuse(BAD);
        }
        if (nothing()) {
            return refuse(NO);
        }
        int bits = 0;
        for (int h = 0; h < s.heads.size(); h++) {
            bits |= isSure(ways(), h, c) ? 1 << h : 0;
        }
        return bits;
    }

    int falls(int c, int n) {
        if (!in(c, 0, 100) || !has(s.names, n)) {
            return refuse(BAD);
        }
        List<Way> without = waysWithout(n);
        if (nothing() || total(without, Way::weight).signum() == 0) {
            return refuse(NO);
        }
        int bits = 0;
        for (int h = 0; h < s.heads.size(); h++) {
            boolean stays = isSure(without, h, c) && namedBy(without, h) == namedBy(ways(), h);
            bits |= isSure(ways(), h, c) && !stays ? 1 << h : 0;
        }
        return bits;
    }

    int same(int a, int b) {
        if (!has(s.heads, a) || !has(s.heads, b) || a == b) {
            return refuse(BAD);
        }
        if (nothing()) {
            return refuse(NO);
        }
        return fraction(where(ways(), w -> w.who[a] == w.who[b] && w.who[a] != STRANGER), allOf());
    }

    private boolean isOn(Way w, int p, int pic) {
        for (int h = 0; h < w.who.length; h++) {
            if (w.who[h] == p && s.heads.get(h)[0] == pic) {
                return true;
            }
        }
        return false;
    }

    int noneOf(int p) {
        if (!has(s.people, p)) {
            return refuse(BAD);
        }
        if (nothing()) {
            return refuse(NO);
        }
        return fraction(where(ways(), w -> Arrays.stream(w.who).noneMatch(v -> v == p)), allOf());
    }

    int friend(int p) {
        if (!has(s.people, p)) {
            return refuse(BAD);
        }
        if (nothing()) {
            return refuse(NO);
        }
        return fraction(total(ways(), w -> {
            int strangers = 0;
            for (int h = 0; h < w.who.length; h++) {
                if (w.who[h] == STRANGER && isOn(w, p, s.heads.get(h)[0])) {
                    strangers++;
                }
            }
            return w.weight().multiply(BigInteger.valueOf(strangers));
        }), allOf());
    }

    int of(int h, int p) {
        if (!has(s.heads, h) || !has(s.people, p)) {
            return refuse(BAD);
        }
        if (nothing()) {
            return refuse(NO);
        }
        return fraction(where(ways(), w -> w.who[h] == STRANGER && isOn(w, p, s.heads.get(h)[0])), allOf());
    }

    // ---- when, what to ask

    private BigInteger inYear(int pic, int year) {
        return total(ways(), w -> {
            BigInteger v = w.told;
            for (int p = 0; p < w.years.length; p++) {
                v = v.multiply(p == pic ? w.years[p][year - s.pictures.get(p)[0]] : sum(w.years[p]));
            }
            return v;
        });
    }

    int when(int pic, int year) {
        if (!has(s.pictures, pic) || !in(year, s.pictures.get(pic)[0], s.pictures.get(pic)[1])) {
            return refuse(BAD);
        }
        if (nothing()) {
            return refuse(NO);
        }
        return fraction(inYear(pic, year), allOf());
    }

    int span(int pic, int what) {
        if (!has(s.pictures, pic) || !in(what, 0, 1)) {
            return refuse(BAD);
        }
        if (nothing()) {
            return refuse(NO);
        }
        int found = NONE;
        for (int y = s.pictures.get(pic)[0]; y <= s.pictures.get(pic)[1]; y++) {
            if (inYear(pic, y).signum() > 0 && (found == NONE || what == 1)) {
                found = y;
            }
        }
        return found;
    }

    int ahead(int a, int b) {
        if (!has(s.pictures, a) || !has(s.pictures, b) || a == b) {
            return refuse(BAD);
        }
        if (nothing()) {
            return refuse(NO);
        }
        return fraction(total(ways(), w -> {
            BigInteger v = BigInteger.ZERO;
            for (int y = 0; y < w.years[a].length; y++) {
                for (int z = 0; z < w.years[b].length; z++) {
                    if (s.pictures.get(a)[0] + y < s.pictures.get(b)[0] + z) {
                        v = v.add(w.years[a][y].multiply(w.years[b][z]));
                    }
                }
            }
            v = v.multiply(w.told);
            for (int p = 0; p < w.years.length; p++) {
                v = p == a || p == b ? v : v.multiply(sum(w.years[p]));
            }
            return v;
        }), allOf());
    }

    int parts(int p, int q) {
        if (!has(s.people, p) || !has(s.people, q) || p == q) {
            return refuse(BAD);
        }
        for (int m = 0; m < 4; m++) {
            if (markOf(p, m) + markOf(q, m) == 1 && markOf(p, m) * markOf(q, m) == 0) {
                return m;
            }
        }
        return NONE;
    }

    int doubt(int p, int q) {
        if (!has(s.people, p) || !has(s.people, q) || p == q) {
            return refuse(BAD);
        }
        if (nothing()) {
            return refuse(NO);
        }
        int found = NONE;
        BigInteger most = BigInteger.ZERO;
        for (int h = 0; h < s.heads.size(); h++) {
            BigInteger less = shareOf(ways(), h, p).min(shareOf(ways(), h, q));
            if (less.compareTo(most) > 0) {
                most = less;
                found = h;
            }
        }
        return found;
    }

    int right() {
        if (nothing()) {
            return refuse(NO);
        }
        BigInteger t = BigInteger.ZERO;
        for (int h = 0; h < s.heads.size(); h++) {
            t = t.add(shareOf(ways(), h, namedBy(ways(), h)));
        }
        return fraction(t, allOf());
    }

    /** Above a unit of ALL times 10 times the count of PEOPLE. */
    private BigInteger worthOf(int asked) {
        int others = s.people.size();
        if (others == 0) {
            return BigInteger.ZERO;
        }
        BigInteger t = BigInteger.ZERO;
        for (int said : whos()) {
            for (int h = 0; h < s.heads.size(); h++) {
                int head = h;
                BigInteger most = BigInteger.ZERO;
                for (int v : whos()) {
                    most = most.max(total(ways(), w -> w.who[head] != v ? BigInteger.ZERO
                            : w.weight().multiply(BigInteger.valueOf(saidIf(said, w.who[asked], others)))));
                }
                t = t.add(most);
            }
        }
        for (int h = 0; h < s.heads.size(); h++) {
            t = t.subtract(shareOf(ways(), h, namedBy(ways(), h)).multiply(BigInteger.valueOf(10 * others)));
        }
        return t;
    }

    private int saidIf(int said, int so, int others) {
        int truth = so == STRANGER ? 6 : 5 + s.people.get(so)[5];
        return said == so ? truth * others : 10 - truth;
    }

    private BigInteger unit() {
        return allOf().multiply(BigInteger.valueOf(Math.max(1, 10 * s.people.size())));
    }

    int ask(int h) {
        if (!has(s.heads, h)) {
            return refuse(BAD);
        }
        if (nothing()) {
            return refuse(NO);
        }
        return fraction(worthOf(h), unit());
    }

    int next() {
        if (s.heads.isEmpty()) {
            return NONE;
        }
        if (nothing()) {
            return refuse(NO);
        }
        int found = 0;
        for (int h = 1; h < s.heads.size(); h++) {
            if (worthOf(h).compareTo(worthOf(found)) > 0) {
                found = h;
            }
        }
        fraction(worthOf(found), unit());
        return found;
    }

    // ---- what there is

    private static int[] limbs(BigInteger v) {
        List<Integer> l = new ArrayList<>();
        BigInteger base = BigInteger.valueOf(1073741824);
        for (BigInteger x = v.abs(); x.signum() > 0; x = x.divide(base)) {
            l.add(x.mod(base).intValue());
        }
        return l.stream().mapToInt(i -> i).toArray();
    }

    int sign(int what) {
        return switch (what) {
            case 0 -> above.signum();
            case 1 -> limbs(above).length;
            case 2 -> limbs(below).length;
            default -> refuse(BAD);
        };
    }

    int limb(int which, int i) {
        if (!in(which, 0, 1) || i < 0) {
            return refuse(BAD);
        }
        int[] l = limbs(which == 0 ? above : below);
        return i < l.length ? l[i] : NONE;
    }

    int image(int i) {
        if (!in(i, 0, 1)) {
            return refuse(BAD);
        }
        images[i] = s.copy();
        return 1;
    }

    int from(int i) {
        if (!in(i, 0, 1)) {
            return refuse(BAD);
        }
        if (images[i] == null) {
            return refuse(NO);
        }
        s = images[i].copy();
        cached = null;
        return 1;
    }

    int status(int what) {
        if (!in(what, 0, 2)) {
            refuse(BAD);
            return -1;
        }
        return refusals[what];
    }

    int count(int what) {
        return in(what, 0, 5) ? counts()[what] : refuse(BAD);
    }

    private int[] counts() {
        return new int[] {s.people.size(), s.pictures.size(), s.heads.size(), s.names.size(), s.joins.size(), text.length()};
    }

    long digest() {
        List<Integer> l = new ArrayList<>();
        for (int c : counts()) {
            l.add(c);
        }
        for (List<int[]> rows : List.of(s.people, s.pictures, s.heads, s.names, s.joins)) {
            for (int[] r : rows) {
                for (int v : r) {
                    l.add(v);
                }
            }
        }
        l.add(s.strange);
        l.add(sign(0));
        l.add(sign(1));
        l.add(sign(2));
        for (int v : limbs(above)) {
            l.add(v);
        }
        for (int v : limbs(below)) {
            l.add(v);
        }
        long h = 661;
        for (int v : l) {
            h = 31 * h + v;
        }
        return h;
    }
}
