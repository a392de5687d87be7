import java.util.Arrays;

/**
 * A box of pictures without names: who is who on them, as odds that are exact.
 * DOC.md tells what each call answers; words in capitals here are its words.
 */
public final class NamelessBox {
    public static final int NONE = -1, BAD = -2, NO = -3, FULL = -4;

    private static final int PEOPLE = 5;
    private static final int PICTURES = 4;
    private static final int HEADS = 6;
    private static final int NAMES = 4;
    private static final int JOINS = 4;
    private static final int MARKS = 4;
    private static final int IMAGES = 2;
    private static final int LAST_YEAR = 99;
    private static final int MORE_YEARS = 11;
    private static final int YEARS = 12;
    private static final int ALL_MARKS = 15;

    /** Stands behind all PEOPLE, so that rising numbers are the order in which like ones are told apart. */
    private static final int STRANGER = 5;

    /** How many a HEAD may be: PEOPLE and a STRANGER. */
    private static final int WHOS = 6;

    /** How much is summed up of all WAYS: ALL alone; by each HEAD, too; by each two HEADS, too. */
    private static final int TOTAL = 0;
    private static final int SINGLES = 1;
    private static final int PAIRS = 2;

    private final Box box = new Box();
    private final Box scratch = new Box();
    private final Box image0 = new Box();
    private final Box image1 = new Box();
    private final boolean[] kept = new boolean[IMAGES];
    private final Text text = new Text();
    private final Fraction fraction = new Fraction();
    private final int[] refusals = new int[3];
    private final Ways now = new Ways(box, new Sums(true));
    private final Ways aside = new Ways(box, new Sums(false));
    private final Aunt aunt = new Aunt(box, now.sums);

    /** How much of what the sums tell still fits the box: the sums cost most of all, and most calls change nothing. */
    private int summed = NONE;

    public NamelessBox() {
    }

    // ---- a box

    public int person(int born, int died, int marks, int known) {
        return told(box.addPerson(born, died, marks, known));
    }

    public int parent(int person, int parent) {
        return told(box.setParent(person, parent));
    }

    public int near(int person, int v) {
        return told(box.setNear(person, v));
    }

    public int picture(int from, int to) {
        return told(box.addPicture(from, to));
    }

    public int head(int picture, int marks, int seen, int low, int high) {
        return told(box.addHead(picture, marks, seen, low, high));
    }

    public int name(int kind, int head, int p, int q) {
        return told(box.addName(kind, head, p, q));
    }

    public int join(int a, int b, int w) {
        return told(box.addJoin(a, b, w));
    }

    public int strange(int v) {
        return told(box.setStrange(v));
    }

    public int mark(int person, int m) {
        if (!box.people.has(person) || !within(m, 0, MARKS - 1)) {
            return refused(BAD);
        }
        return box.markOf(person, m);
    }

    public int like(int head, int person, int year) {
        if (!box.heads.has(head) || !isWho(person) || !within(year, 0, LAST_YEAR)) {
            return refused(BAD);
        }
        int who = whoIs(person);
        return box.marksLike(head, who) * box.ageLike(head, who, year);
    }

    public int truth(int name) {
        if (!box.names.has(name)) {
            return refused(BAD);
        }
        return box.truthOf(name);
    }

    public int type(long v, int n) {
        if (!within(n, 1, 8)) {
            return refused(BAD);
        }
        if (!text.hasRoom(n)) {
            return refused(FULL);
        }
        return text.append(v, n);
    }

    public int clear() {
        return text.empty();
    }

    public int read() {
        int fault = text.findFault();
        if (fault != NONE) {
            return -10 - fault;
        }
        int items = text.tell(scratch);
        if (items < 0) {
            return -1000 - (NONE - items);
        }
        box.take(scratch);
        summed = NONE;
        return items;
    }

    // ---- who is who

    public int who(int head, int person) {
        if (!box.heads.has(head) || !isWho(person)) {
            return refused(BAD);
        }
        if (!anyWay(SINGLES)) {
            return refused(NO);
        }
        return share(now.sums.shares, head * WHOS + whoIs(person));
    }

    public int named(int head) {
        if (!box.heads.has(head)) {
            return refused(BAD);
        }
        if (!anyWay(SINGLES)) {
            return refused(NO);
        }
        int who = now.sums.likeliest(head);
        share(now.sums.shares, head * WHOS + who);
        return who;
    }

    public int best(int head) {
        if (!box.heads.has(head)) {
            return refused(BAD);
        }
        if (!anyWay(SINGLES)) {
            return refused(NO);
        }
        return now.sums.bestWay[head];
    }

    public int all() {
        if (!anyWay(SINGLES)) {
            return refused(NO);
        }
        fraction.setWhole(now.sums.total, 0);
        return 1;
    }

    public int sure(int c) {
        if (!within(c, 0, 100)) {
            return refused(BAD);
        }
        if (!anyWay(SINGLES)) {
            return refused(NO);
        }
        int bits = 0;
        for (int h = 0; h < box.heads.size; h++) {
            if (now.sums.isSure(h, c)) {
                bits |= 1 << h;
            }
        }
        return bits;
    }

    public int falls(int c, int name) {
        if (!within(c, 0, 100) || !box.names.has(name)) {
            return refused(BAD);
        }
        if (!anyWay(SINGLES)) {
            return refused(NO);
        }
        aside.lookAtAll(SINGLES);
        aside.leaveOut(name);
        aside.sumUp();
        if (aside.sums.isNothing()) {
            return refused(NO);
        }
        int bits = 0;
        for (int h = 0; h < box.heads.size; h++) {
            if (now.sums.isSure(h, c) && !staysSure(h, c)) {
                bits |= 1 << h;
            }
        }
        return bits;
    }

    public int same(int a, int b) {
        if (!box.heads.has(a) || !box.heads.has(b) || a == b) {
            return refused(BAD);
        }
        if (!anyWay(PAIRS)) {
            return refused(NO);
        }
        now.sums.startAnswer();
        for (int p = 0; p < box.people.size; p++) {
            now.sums.addJoint(a, p, b, p);
        }
        return answerShare();
    }

    public int noneOf(int person) {
        if (!box.people.has(person)) {
            return refused(BAD);
        }
        if (!anyWay(SINGLES)) {
            return refused(NO);
        }
        now.sums.startAnswer();
        now.sums.addCrowdsWithout(person);
        return answerShare();
    }

    public int friend(int person) {
        if (!box.people.has(person)) {
            return refused(BAD);
        }
        if (!anyWay(PAIRS)) {
            return refused(NO);
        }
        now.sums.startAnswer();
        for (int h = 0; h < box.heads.size; h++) {
            addStrangerBeside(h, person);
        }
        return answerShare();
    }

    public int of(int head, int person) {
        if (!box.heads.has(head) || !box.people.has(person)) {
            return refused(BAD);
        }
        if (!anyWay(PAIRS)) {
            return refused(NO);
        }
        now.sums.startAnswer();
        addStrangerBeside(head, person);
        return answerShare();
    }

    // ---- when, what to ask

    public int when(int picture, int year) {
        if (!box.pictures.has(picture) || !isYearOf(picture, year)) {
            return refused(BAD);
        }
        if (!anyWay(SINGLES)) {
            return refused(NO);
        }
        aside.lookAtAll(TOTAL);
        aside.lookAtYear(picture, year, false);
        aside.sumUp();
        return share(aside.sums.total, 0);
    }

    public int span(int picture, int what) {
        if (!box.pictures.has(picture) || !within(what, 0, 1)) {
            return refused(BAD);
        }
        if (!anyWay(SINGLES)) {
            return refused(NO);
        }
        int from = box.pictures.at(picture, Box.FROM);
        int to = box.pictures.at(picture, Box.TO);
        for (int i = 0; i < to - from; i++) {
            int year = what == 0 ? from + i : to - i;
            aside.lookAtAll(TOTAL);
            aside.lookAtYear(picture, year, true);
            aside.sumUp();
            if (!aside.sums.isNothing()) {
                return year;
            }
        }
        return what == 0 ? to : from;
    }

    public int ahead(int a, int b) {
        if (!box.pictures.has(a) || !box.pictures.has(b) || a == b) {
            return refused(BAD);
        }
        if (!anyWay(SINGLES)) {
            return refused(NO);
        }
        aside.lookAtAll(TOTAL);
        aside.lookInOrder(a, b);
        aside.sumUp();
        return share(aside.sums.total, 0);
    }

    public int parts(int p, int q) {
        if (!areTwoPeople(p, q)) {
            return refused(BAD);
        }
        for (int m = 0; m < MARKS; m++) {
            int one = box.markOf(p, m);
            int other = box.markOf(q, m);
            if (one != NONE && other != NONE && one != other) {
                return m;
            }
        }
        return NONE;
    }

    public int doubt(int p, int q) {
        if (!areTwoPeople(p, q)) {
            return refused(BAD);
        }
        if (!anyWay(SINGLES)) {
            return refused(NO);
        }
        return now.sums.closestHead(p, q);
    }

    public int right() {
        if (!anyWay(SINGLES)) {
            return refused(NO);
        }
        now.sums.startAnswer();
        now.sums.addLikeliest();
        return answerShare();
    }

    public int ask(int head) {
        if (!box.heads.has(head)) {
            return refused(BAD);
        }
        if (!anyWay(PAIRS)) {
            return refused(NO);
        }
        aunt.weigh(head);
        fraction.set(aunt.worth, 0, aunt.unit, 0);
        return 1;
    }

    public int next() {
        if (box.heads.size == 0) {
            return NONE;
        }
        if (!anyWay(PAIRS)) {
            return refused(NO);
        }
        int head = aunt.findDearest();
        fraction.set(aunt.dearest, 0, aunt.unit, 0);
        return head;
    }

    // ---- what there is

    public int sign(int what) {
        switch (what) {
            case 0:
                return fraction.isZero() ? 0 : 1;
            case 1:
                return Limbs.length(fraction.above, 0);
            case 2:
                return Limbs.length(fraction.below, 0);
            default:
                return refused(BAD);
        }
    }

    public int limb(int which, int i) {
        if (!within(which, 0, 1) || i < 0) {
            return refused(BAD);
        }
        long[] limbs = which == 0 ? fraction.above : fraction.below;
        return i < Limbs.length(limbs, 0) ? (int) limbs[i] : NONE;
    }

    public int image(int i) {
        if (!within(i, 0, IMAGES - 1)) {
            return refused(BAD);
        }
        imageOf(i).take(box);
        kept[i] = true;
        return 1;
    }

    public int from(int i) {
        if (!within(i, 0, IMAGES - 1)) {
            return refused(BAD);
        }
        if (!kept[i]) {
            return refused(NO);
        }
        box.take(imageOf(i));
        summed = NONE;
        return 1;
    }

    public int status(int what) {
        if (!within(what, 0, 2)) {
            refused(BAD);
            return -1;
        }
        return refusals[what];
    }

    public int count(int what) {
        if (!within(what, 0, 5)) {
            return refused(BAD);
        }
        return howMany(what);
    }

    public long digest() {
        long h = 661;
        for (int what = 0; what <= 5; what++) {
            h = 31 * h + howMany(what);
        }
        h = box.mixInto(h);
        h = 31 * h + (fraction.isZero() ? 0 : 1);
        h = 31 * h + Limbs.length(fraction.above, 0);
        h = 31 * h + Limbs.length(fraction.below, 0);
        h = Limbs.mixInto(h, fraction.above, 0);
        return Limbs.mixInto(h, fraction.below, 0);
    }

    // ---- for these

    private static boolean within(int v, int low, int high) {
        return v >= low && v <= high;
    }

    /** NONE stands for a STRANGER in the calls that take one. */
    private boolean isWho(int person) {
        return person == NONE || box.people.has(person);
    }

    private static int whoIs(int person) {
        return person == NONE ? STRANGER : person;
    }

    /** The i-th that a HEAD may be: PEOPLE rising, a STRANGER behind all. */
    private static int whoAt(int i, int people) {
        return i < people ? i : STRANGER;
    }

    private boolean areTwoPeople(int p, int q) {
        return box.people.has(p) && box.people.has(q) && p != q;
    }

    private boolean isYearOf(int picture, int year) {
        return within(year, box.pictures.at(picture, Box.FROM), box.pictures.at(picture, Box.TO));
    }

    /** An answer of the box: a change makes the sums old, a refusal is counted. */
    private int told(int answer) {
        if (answer < NONE) {
            return refused(answer);
        }
        summed = NONE;
        return answer;
    }

    private int refused(int answer) {
        int reason = answer == NO ? 1 : answer == FULL ? 2 : 0;
        refusals[reason]++;
        return answer;
    }

    private boolean anyWay(int needed) {
        if (summed < needed) {
            now.lookAtAll(needed);
            now.sumUp();
            summed = needed;
        }
        return !now.sums.isNothing();
    }

    private int share(long[] row, int i) {
        fraction.set(row, i, now.sums.total, 0);
        return 1;
    }

    private int answerShare() {
        Limbs.carry(now.sums.answer, 0);
        return share(now.sums.answer, 0);
    }

    private boolean staysSure(int head, int c) {
        return aside.sums.isSure(head, c) && aside.sums.likeliest(head) == now.sums.likeliest(head);
    }

    /** A PERSON is on a PICTURE once at most, so the HEADS beside add up without meeting twice. */
    private void addStrangerBeside(int head, int person) {
        int picture = box.heads.at(head, Box.PICTURE);
        for (int h = 0; h < box.heads.size; h++) {
            if (h != head && box.heads.at(h, Box.PICTURE) == picture) {
                now.sums.addJoint(head, STRANGER, h, person);
            }
        }
    }

    private Box imageOf(int i) {
        return i == 0 ? image0 : image1;
    }

    private int howMany(int what) {
        switch (what) {
            case 0:
                return box.people.size;
            case 1:
                return box.pictures.size;
            case 2:
                return box.heads.size;
            case 3:
                return box.names.size;
            case 4:
                return box.joins.size;
            default:
                return text.length;
        }
    }

    /** Rows of numbers, as they come, up to a limit. */
    private static final class Rows {
        final int width;
        final int limit;
        final int[] cells;
        int size = 0;

        Rows(int width, int limit) {
            this.width = width;
            this.limit = limit;
            this.cells = new int[Math.max(0, width * limit)];
        }

        boolean has(int row) {
            return row >= 0 && row < size;
        }

        boolean isFull() {
            return size >= limit;
        }

        int at(int row, int column) {
            return row >= 0 && row < size && column >= 0 && column < width ? cells[row * width + column] : NONE;
        }

        void put(int row, int column, int v) {
            if (has(row) && within(column, 0, width - 1)) {
                cells[row * width + column] = v;
            }
        }

        /** A new row: its number. Whoever calls has seen that it is not full. */
        int grow() {
            if (!isFull()) {
                size++;
            }
            return size - 1;
        }

        void take(Rows other) {
            System.arraycopy(other.cells, 0, cells, 0, Math.min(cells.length, other.cells.length));
            size = Math.min(other.size, limit);
        }

        long mixInto(long h) {
            long mixed = h;
            for (int i = 0; i < size * width; i++) {
                mixed = 31 * mixed + cells[i];
            }
            return mixed;
        }
    }

    /** What an IMAGE keeps; its calls answer as those of the face, and count nothing. */
    private static final class Box {
        static final int BORN = 0, DIED = 1, TRAITS = 2, KNOWN = 3, PARENT = 4, NEAR = 5;
        static final int FROM = 0, TO = 1;
        static final int PICTURE = 0, SIGHT = 1, SEEN = 2, LOW = 3, HIGH = 4;
        static final int KIND = 0, HEAD = 1, P = 2, Q = 3;
        static final int A = 0, B = 1, W = 2;
        static final int SURE = 1, TOLD = 2, EITHER = 3, NEVER = 4, BACK = 5;
        static final int BAD_PARENT = -10;
        static final int LIVES = 100;

        final Rows people = new Rows(6, NamelessBox.PEOPLE);
        final Rows pictures = new Rows(2, NamelessBox.PICTURES);
        final Rows heads = new Rows(5, NamelessBox.HEADS);
        final Rows names = new Rows(4, NamelessBox.NAMES);
        final Rows joins = new Rows(3, NamelessBox.JOINS);
        int strangeness = 1;

        void empty() {
            people.size = 0;
            pictures.size = 0;
            heads.size = 0;
            names.size = 0;
            joins.size = 0;
            strangeness = 1;
        }

        void take(Box other) {
            people.take(other.people);
            pictures.take(other.pictures);
            heads.take(other.heads);
            names.take(other.names);
            joins.take(other.joins);
            strangeness = other.strangeness;
        }

        int addPerson(int born, int died, int marks, int known) {
            if (!within(born, 0, LAST_YEAR) || !within(died, born, LIVES)
                    || !within(marks, 0, ALL_MARKS) || !within(known, 0, ALL_MARKS)) {
                return BAD;
            }
            if (people.isFull()) {
                return FULL;
            }
            int person = people.grow();
            people.put(person, BORN, born);
            people.put(person, DIED, died);
            people.put(person, TRAITS, marks);
            people.put(person, KNOWN, known);
            people.put(person, PARENT, NONE);
            people.put(person, NEAR, 2);
            return person;
        }

        int setParent(int person, int parent) {
            if (!people.has(person) || parent != NONE && !mayBeParent(person, parent)) {
                return BAD_PARENT;
            }
            int was = people.at(person, PARENT);
            people.put(person, PARENT, parent);
            return was;
        }

        private boolean mayBeParent(int person, int parent) {
            int birth = people.at(person, BORN);
            return people.has(parent) && parent < person
                    && people.at(parent, BORN) < birth && people.at(parent, DIED) >= birth;
        }

        int setNear(int person, int v) {
            if (!people.has(person) || !within(v, 0, 4)) {
                return BAD;
            }
            int was = people.at(person, NEAR);
            people.put(person, NEAR, v);
            return was;
        }

        int addPicture(int from, int to) {
            if (!within(from, 0, LAST_YEAR) || !within(to, from, LAST_YEAR) || to - from > MORE_YEARS) {
                return BAD;
            }
            if (pictures.isFull()) {
                return FULL;
            }
            int picture = pictures.grow();
            pictures.put(picture, FROM, from);
            pictures.put(picture, TO, to);
            return picture;
        }

        int addHead(int picture, int marks, int seen, int low, int high) {
            if (!pictures.has(picture) || !within(marks, 0, ALL_MARKS) || !within(seen, 0, ALL_MARKS)
                    || !within(low, 0, LAST_YEAR) || !within(high, low, LAST_YEAR)) {
                return BAD;
            }
            if (heads.isFull()) {
                return FULL;
            }
            int head = heads.grow();
            heads.put(head, PICTURE, picture);
            heads.put(head, SIGHT, marks);
            heads.put(head, SEEN, seen);
            heads.put(head, LOW, low);
            heads.put(head, HIGH, high);
            return head;
        }

        int addName(int kind, int head, int p, int q) {
            if (!within(kind, 0, BACK) || !heads.has(head) || !people.has(p) || !people.has(q)) {
                return BAD;
            }
            if (names.isFull()) {
                return FULL;
            }
            int name = names.grow();
            names.put(name, KIND, kind);
            names.put(name, HEAD, head);
            names.put(name, P, p);
            names.put(name, Q, q);
            return name;
        }

        int addJoin(int a, int b, int w) {
            if (!heads.has(a) || !heads.has(b) || heads.at(a, PICTURE) == heads.at(b, PICTURE)
                    || !within(w, 0, 10)) {
                return BAD;
            }
            if (joins.isFull()) {
                return FULL;
            }
            int join = joins.grow();
            joins.put(join, A, a);
            joins.put(join, B, b);
            joins.put(join, W, w);
            return join;
        }

        int setStrange(int v) {
            if (!within(v, 0, 9)) {
                return BAD;
            }
            int was = strangeness;
            strangeness = v;
            return was;
        }

        /** A PARENT is one ahead in number, so the chain ends within as many steps as there are PEOPLE. */
        int markOf(int person, int m) {
            int p = person;
            for (int i = 0; i < NamelessBox.PEOPLE && people.has(p); i++) {
                if ((people.at(p, KNOWN) >> m & 1) == 1) {
                    return people.at(p, TRAITS) >> m & 1;
                }
                p = people.at(p, PARENT);
            }
            return NONE;
        }

        /** The part of LIKE that is the same in all years. */
        int marksLike(int head, int who) {
            int seen = heads.at(head, SEEN);
            int product = who == STRANGER ? strangeness * 2 : 1;
            for (int m = 0; m < NamelessBox.MARKS; m++) {
                if ((seen >> m & 1) == 1) {
                    int his = who == STRANGER ? NONE : markOf(who, m);
                    product *= his == NONE ? 2 : his == (heads.at(head, SIGHT) >> m & 1) ? 3 : 1;
                }
            }
            return product;
        }

        /** The part of LIKE that goes by the year; a STRANGER has none. */
        int ageLike(int head, int who, int year) {
            if (who == STRANGER) {
                return 1;
            }
            int age = year - people.at(who, BORN);
            if (age < 0 || people.at(who, DIED) < year) {
                return 0;
            }
            int low = heads.at(head, LOW);
            int high = heads.at(head, HIGH);
            return within(age, low, high) ? 4 : within(age, low - 5, high + 5) ? 2 : 1;
        }

        int truthOf(int name) {
            int told = 5 + people.at(names.at(name, P), NEAR);
            switch (names.at(name, KIND)) {
                case SURE:
                case NEVER:
                    return 10;
                case TOLD:
                case EITHER:
                    return told;
                case BACK:
                    return told - 2;
                default:
                    return 6;
            }
        }

        boolean isSo(int name, int who) {
            switch (names.at(name, KIND)) {
                case EITHER:
                    return who == names.at(name, P) || who == names.at(name, Q);
                case NEVER:
                    return who == STRANGER;
                default:
                    return who == names.at(name, P);
            }
        }

        /** What the aunt is right by, of 10, if a HEAD that she is asked for is this one. */
        int auntTruth(int who) {
            return who == STRANGER ? 6 : 5 + people.at(who, NEAR);
        }

        long mixInto(long h) {
            long mixed = people.mixInto(h);
            mixed = pictures.mixInto(mixed);
            mixed = heads.mixInto(mixed);
            mixed = names.mixInto(mixed);
            mixed = joins.mixInto(mixed);
            return 31 * mixed + strangeness;
        }
    }

    /** THE TEXT, and how a box is told by it. */
    private static final class Text {
        static final int SIZE = 300;
        static final int END = 0, WORD = 1, NUMBER = 2, CLOSE = 3, WRONG = 4;
        static final int FIGURES = 3;
        static final int ITEMS = 8;
        static final int MOST_NUMBERS = 5;
        static final int[] NUMBERS_OF = {4, 2, 2, 2, 5, 4, 3, 1};

        final char[] bytes = new char[SIZE];
        int length = 0;

        /** The TOKEN that was looked at last: bytes start .. end - 1. */
        private int start = 0;
        private int end = 0;

        /** The ITEM that was looked at last. */
        private int item = 0;
        private final int[] numbers = new int[MOST_NUMBERS];

        boolean hasRoom(int n) {
            return n <= SIZE - length;
        }

        int append(long v, int n) {
            for (int i = n - 1; i >= 0 && length < SIZE; i--) {
                bytes[length] = (char) (v >> 8 * i & 255);
                length++;
            }
            return length;
        }

        int empty() {
            int had = length;
            length = 0;
            return had;
        }

        /** Looked for through the whole TEXT ahead of any ITEM: a TEXT with a FAULT tells no box. */
        int findFault() {
            end = 0;
            int kind = advance();
            for (int i = 0; i < SIZE && kind != END; i++) {
                if (!takeItem(kind)) {
                    return start;
                }
                kind = advance();
            }
            return NONE;
        }

        /** Tells a box anew: how many ITEMS; NONE less the number of the first one that is refused. */
        int tell(Box box) {
            box.empty();
            end = 0;
            int items = 0;
            int kind = advance();
            for (int i = 0; i < SIZE && kind != END && takeItem(kind); i++) {
                if (tellItem(box) < NONE) {
                    return NONE - items;
                }
                items++;
                kind = advance();
            }
            return items;
        }

        /** An ITEM whose first TOKEN was looked at; if it is none, that TOKEN which can not stand is the last. */
        private boolean takeItem(int kind) {
            if (kind != WORD) {
                return false;
            }
            item = itemOf();
            if (item == NONE) {
                return false;
            }
            for (int i = 0; i < NUMBERS_OF[item]; i++) {
                if (advance() != NUMBER) {
                    return false;
                }
                numbers[i] = numberOf();
            }
            return advance() == CLOSE;
        }

        private int tellItem(Box box) {
            int[] n = numbers;
            switch (item) {
                case 0:
                    return box.addPerson(n[0], n[1], n[2], n[3]);
                case 1:
                    return box.setParent(n[0], n[1]);
                case 2:
                    return box.setNear(n[0], n[1]);
                case 3:
                    return box.addPicture(n[0], n[1]);
                case 4:
                    return box.addHead(n[0], n[1], n[2], n[3], n[4]);
                case 5:
                    return box.addName(n[0], n[1], n[2], n[3]);
                case 6:
                    return box.addJoin(n[0], n[1], n[2]);
                default:
                    return box.setStrange(n[0]);
            }
        }

        private static String wordOf(int item) {
            switch (item) {
                case 0:
                    return "person";
                case 1:
                    return "parent";
                case 2:
                    return "near";
                case 3:
                    return "picture";
                case 4:
                    return "head";
                case 5:
                    return "name";
                case 6:
                    return "join";
                default:
                    return "strange";
            }
        }

        /** Goes to the next TOKEN: its kind. At the end it is an empty one behind the last byte. */
        private int advance() {
            start = end;
            while (start < length && bytes[start] == ' ') {
                start++;
            }
            end = start;
            if (start >= length) {
                return END;
            }
            if (isLetter(bytes[start])) {
                while (end < length && isLetter(bytes[end])) {
                    end++;
                }
                return WORD;
            }
            if (isFigure(bytes[start])) {
                while (end < length && isFigure(bytes[end])) {
                    end++;
                }
                return end - start <= FIGURES ? NUMBER : WRONG;
            }
            end++;
            return bytes[start] == ';' ? CLOSE : WRONG;
        }

        private static boolean isLetter(char c) {
            return c >= 'a' && c <= 'z';
        }

        private static boolean isFigure(char c) {
            return c >= '0' && c <= '9';
        }

        private int itemOf() {
            for (int i = 0; i < ITEMS; i++) {
                if (isWord(wordOf(i))) {
                    return i;
                }
            }
            return NONE;
        }

        private boolean isWord(String word) {
            if (word.length() != end - start) {
                return false;
            }
            for (int i = 0; i < word.length(); i++) {
                if (bytes[start + i] != word.charAt(i)) {
                    return false;
                }
            }
            return true;
        }

        private int numberOf() {
            int v = 0;
            for (int i = start; i < end; i++) {
                v = 10 * v + (bytes[i] - '0');
            }
            return v;
        }
    }

    /**
     * Whole numbers from 0 on, of four digits to the base 2 to the 30th, the lowest first, side by side in rows:
     * the i-th of a row begins at 4 i. ALL is below 2 to the 107th (12 years to the 4th, LIKES of 324 to the 6th,
     * NAMES and JOINS of 10 to the 8th, 6 to the 6th WAYS), and no answer's parts are 300 times that, so four do.
     */
    private static final class Limbs {
        static final int SIZE = 4;
        static final int BITS = 30;
        static final long MASK = (1L << BITS) - 1;

        static void zero(long[] x, int i) {
            for (int k = 0; k < SIZE; k++) {
                x[i * SIZE + k] = 0;
            }
        }

        static void set(long[] x, int i, int v) {
            zero(x, i);
            x[i * SIZE] = v;
        }

        static void copy(long[] x, int i, long[] y, int j) {
            System.arraycopy(y, j * SIZE, x, i * SIZE, SIZE);
        }

        static boolean isZero(long[] x, int i) {
            int at = i * SIZE;
            return (x[at] | x[at + 1] | x[at + 2] | x[at + 3]) == 0;
        }

        /** Leaves digits above the base, as sums of many thousands do better with one carry at their end. */
        static void add(long[] x, int i, long[] y, int j) {
            int to = i * SIZE;
            int from = j * SIZE;
            x[to] += y[from];
            x[to + 1] += y[from + 1];
            x[to + 2] += y[from + 2];
            x[to + 3] += y[from + 3];
        }

        /** Brings digits that are above the base, or below 0, back among those that may stand. */
        static void carry(long[] x, int i) {
            long over = 0;
            for (int k = i * SIZE; k < i * SIZE + SIZE; k++) {
                over += x[k];
                x[k] = over & MASK;
                over >>= BITS;
            }
        }

        /** Takes y from x, which is not less. */
        static void subtract(long[] x, int i, long[] y, int j) {
            for (int k = 0; k < SIZE; k++) {
                x[i * SIZE + k] -= y[j * SIZE + k];
            }
            carry(x, i);
        }

        /** x is y times m, which is below 2 to the 60th; x may be y itself. */
        static void multiply(long[] x, int i, long[] y, int j, long m) {
            long low = m & MASK;
            long high = m >> BITS;
            long over = 0;
            long below = 0;
            for (int k = 0; k < SIZE; k++) {
                long digit = y[j * SIZE + k];
                over += digit * low + below * high;
                x[i * SIZE + k] = over & MASK;
                over >>= BITS;
                below = digit;
            }
        }

        static int compare(long[] x, int i, long[] y, int j) {
            for (int k = SIZE - 1; k >= 0; k--) {
                int by = Long.compare(x[i * SIZE + k], y[j * SIZE + k]);
                if (by != 0) {
                    return by;
                }
            }
            return 0;
        }

        static boolean isEven(long[] x, int i) {
            return (x[i * SIZE] & 1) == 0;
        }

        static void halve(long[] x, int i) {
            long above = 0;
            for (int k = i * SIZE + SIZE - 1; k >= i * SIZE; k--) {
                long digit = above << BITS | x[k];
                x[k] = digit >> 1;
                above = digit & 1;
            }
        }

        /**
         * x becomes x by y, an odd number that divides it. From the lowest digit up, as what is left of x must
         * end with y times the quotient's next digit: no guess at a digit is needed, as it is from the top.
         */
        static void divide(long[] x, int i, long[] y, int j) {
            long inverse = inverseOf(y[j * SIZE]);
            for (int k = 0; k < SIZE; k++) {
                long digit = x[i * SIZE + k] * inverse & MASK;
                long over = 0;
                for (int n = 0; k + n < SIZE; n++) {
                    over += x[i * SIZE + k + n] - digit * y[j * SIZE + n];
                    x[i * SIZE + k + n] = over & MASK;
                    over >>= BITS;
                }
                x[i * SIZE + k] = digit;
            }
        }

        /** An odd number is its own inverse by 8; each round doubles how many bits are right: 3, 6, 12, 24, 48. */
        private static long inverseOf(long odd) {
            long inverse = odd;
            for (int round = 0; round < 4; round++) {
                inverse *= 2 - odd * inverse;
            }
            return inverse & MASK;
        }

        /** How many digits there are, without those of 0 at the top. */
        static int length(long[] x, int i) {
            int n = SIZE;
            while (n > 0 && x[i * SIZE + n - 1] == 0) {
                n--;
            }
            return n;
        }

        static long mixInto(long h, long[] x, int i) {
            long mixed = h;
            int n = length(x, i);
            for (int k = 0; k < n; k++) {
                mixed = 31 * mixed + x[i * SIZE + k];
            }
            return mixed;
        }
    }

    /** THE FRACTION. No answer is below 0: WORTH, too, is not, as to know more never makes one right less. */
    private static final class Fraction {
        static final int MOST_HALVINGS = 512;

        final long[] above = new long[Limbs.SIZE];
        final long[] below = new long[Limbs.SIZE];
        private final long[] one = new long[Limbs.SIZE];
        private final long[] other = new long[Limbs.SIZE];

        Fraction() {
            below[0] = 1;
        }

        boolean isZero() {
            return Limbs.isZero(above, 0);
        }

        void setWhole(long[] x, int i) {
            Limbs.copy(above, 0, x, i);
            Limbs.set(below, 0, 1);
        }

        /** x by y in lowest terms; y by nothing is taken as 0. */
        void set(long[] x, int i, long[] y, int j) {
            if (Limbs.isZero(x, i) || Limbs.isZero(y, j)) {
                Limbs.zero(above, 0);
                Limbs.set(below, 0, 1);
                return;
            }
            Limbs.copy(above, 0, x, i);
            Limbs.copy(below, 0, y, j);
            halveBoth();
            findOddDivisor();
            Limbs.divide(above, 0, other, 0);
            Limbs.divide(below, 0, other, 0);
        }

        private void halveBoth() {
            for (int i = 0; i < MOST_HALVINGS && Limbs.isEven(above, 0) && Limbs.isEven(below, 0); i++) {
                Limbs.halve(above, 0);
                Limbs.halve(below, 0);
            }
        }

        /** The greatest common divisor, which is odd by now, comes to stand in other: by halves and differences. */
        private void findOddDivisor() {
            Limbs.copy(one, 0, above, 0);
            Limbs.copy(other, 0, below, 0);
            for (int i = 0; i < MOST_HALVINGS && !Limbs.isZero(one, 0); i++) {
                if (Limbs.isEven(one, 0)) {
                    Limbs.halve(one, 0);
                } else if (Limbs.isEven(other, 0)) {
                    Limbs.halve(other, 0);
                } else if (Limbs.compare(one, 0, other, 0) >= 0) {
                    Limbs.subtract(one, 0, other, 0);
                } else {
                    Limbs.subtract(other, 0, one, 0);
                }
            }
        }
    }

    /** What all WAYS come to. */
    private static final class Sums {
        static final int CROWDS = 32;

        final long[] total = new long[Limbs.SIZE];

        /** By HEAD and who it is. */
        final long[] shares = new long[HEADS * WHOS * Limbs.SIZE];

        /** By two HEADS, the lesser one first, and who they are; kept by those alone that are asked for them. */
        final long[] pairs;

        /** By the PEOPLE (bits) that are on any PICTURE. */
        final long[] crowds = new long[CROWDS * Limbs.SIZE];

        final int[] bestWay = new int[HEADS];
        final long[] bestWeight = new long[Limbs.SIZE];

        /** Where an answer is put together. */
        final long[] answer = new long[Limbs.SIZE];
        private final long[] mine = new long[Limbs.SIZE];
        private final long[] theirs = new long[Limbs.SIZE];
        private int people = 0;
        private int heads = 0;

        Sums(boolean withPairs) {
            pairs = new long[withPairs ? HEADS * WHOS * HEADS * WHOS * Limbs.SIZE : 0];
        }

        void empty(int people, int heads, int detail) {
            this.people = people;
            this.heads = heads;
            Limbs.zero(total, 0);
            Limbs.zero(bestWeight, 0);
            if (detail > TOTAL) {
                Arrays.fill(shares, 0);
                Arrays.fill(crowds, 0);
            }
            if (detail == PAIRS) {
                Arrays.fill(pairs, 0);
            }
        }

        void addWay(int[] way, int crowd, long[] weights, int i) {
            Limbs.add(crowds, crowd, weights, i);
            if (Limbs.compare(weights, i, bestWeight, 0) > 0) {
                Limbs.copy(bestWeight, 0, weights, i);
                System.arraycopy(way, 0, bestWay, 0, HEADS);
            }
        }

        void addPair(int head, int who, int later, int whoLater, long[] sums, int i) {
            int at = pairAt(head, who, later, whoLater);
            if (at * Limbs.SIZE < pairs.length) {
                Limbs.add(pairs, at, sums, i);
            }
        }

        private static int pairAt(int head, int who, int later, int whoLater) {
            return ((head * WHOS + who) * HEADS + later) * WHOS + whoLater;
        }

        void finish(long[] sums, int i) {
            Limbs.copy(total, 0, sums, i);
            Limbs.carry(total, 0);
            for (int k = 0; k < HEADS * WHOS; k++) {
                Limbs.carry(shares, k);
            }
        }

        boolean isNothing() {
            return Limbs.isZero(total, 0);
        }

        void startAnswer() {
            Limbs.zero(answer, 0);
        }

        void addJoint(int a, int whoA, int b, int whoB) {
            putJoint(mine, 0, a, whoA, b, whoB);
            Limbs.add(answer, 0, mine, 0);
        }

        /** The sum of the WAYS in which HEAD a is one and HEAD b another one. */
        void putJoint(long[] x, int i, int a, int whoA, int b, int whoB) {
            int at = a < b ? pairAt(a, whoA, b, whoB) : pairAt(b, whoB, a, whoA);
            if (a == b && whoA == whoB) {
                Limbs.copy(x, i, shares, a * WHOS + whoA);
            } else if (a != b && at * Limbs.SIZE < pairs.length) {
                Limbs.copy(x, i, pairs, at);
                Limbs.carry(x, i);
            } else {
                Limbs.zero(x, i);
            }
        }

        void addCrowdsWithout(int person) {
            for (int crowd = 0; crowd < CROWDS; crowd++) {
                if ((crowd >> person & 1) == 0) {
                    Limbs.add(answer, 0, crowds, crowd);
                }
            }
        }

        int likeliest(int head) {
            int found = whoAt(0, people);
            for (int i = 1; i <= people; i++) {
                int who = whoAt(i, people);
                if (Limbs.compare(shares, head * WHOS + who, shares, head * WHOS + found) > 0) {
                    found = who;
                }
            }
            return found;
        }

        void addLikeliest() {
            for (int h = 0; h < heads; h++) {
                Limbs.add(answer, 0, shares, h * WHOS + likeliest(h));
            }
        }

        boolean isSure(int head, int c) {
            Limbs.multiply(mine, 0, shares, head * WHOS + likeliest(head), 100);
            Limbs.multiply(theirs, 0, total, 0, c);
            return Limbs.compare(mine, 0, theirs, 0) >= 0;
        }

        /** The HEAD of which the less of the shares of p and q is greatest; NONE, if all of these are 0. */
        int closestHead(int p, int q) {
            int found = NONE;
            Limbs.zero(mine, 0);
            for (int h = 0; h < heads; h++) {
                int ofP = h * WHOS + p;
                int ofQ = h * WHOS + q;
                int less = Limbs.compare(shares, ofP, shares, ofQ) < 0 ? ofP : ofQ;
                if (Limbs.compare(shares, less, mine, 0) > 0) {
                    Limbs.copy(mine, 0, shares, less);
                    found = h;
                }
            }
            return found;
        }
    }

    /** Goes through all WAYS of a box, HEAD by HEAD, and sums them up. */
    private static final class Ways {
        /** The row of products ahead of a PICTURE's first HEAD. */
        static final int ONES = HEADS;

        /** Below it a factor times all that NAMES and JOINS can bring, 10 to the 8th, is below 2 to the 60th. */
        static final long SMALL = 1L << 33;

        final Sums sums;
        private final Box box;

        /** What is looked at: how much; but for which NAME; which two PICTURES in order; or the first WAY alone. */
        private int detail = TOTAL;
        private int skipped = NONE;
        private int early = NONE;
        private int late = NONE;
        private boolean firstOnly = false;

        /** The years of each PICTURE that are looked at: the first one, and how many. */
        private final int[] firstYear = new int[PICTURES];
        private final int[] years = new int[PICTURES];

        /** The PICTURE of each HEAD, the HEAD ahead of it there, and the last HEAD of each PICTURE (or ONES). */
        private final int[] place = new int[HEADS];
        private final int[] before = new int[HEADS];
        private final int[] closing = new int[PICTURES];

        /** By HEAD and who it is: LIKE in each year, the sum of these, and what its NAMES bring. */
        private final int[] likes = new int[HEADS * WHOS * YEARS];
        private final int[] likeSums = new int[HEADS * WHOS];
        private final int[] namings = new int[HEADS * WHOS];

        /** As far as the WAY goes by now: of each HEAD's PICTURE all LIKES multiplied, year by year. */
        private final long[] products = new long[(HEADS + 1) * YEARS];
        private final long[] weights = new long[(HEADS + 1) * Limbs.SIZE];
        private final long[] subtotals = new long[(HEADS + 1) * Limbs.SIZE];
        private final int[] way = new int[HEADS];

        Ways(Box box, Sums sums) {
            this.box = box;
            this.sums = sums;
            Arrays.fill(products, 1);
        }

        /** Ahead of each sum; what is looked at otherwise is told behind it. */
        void lookAtAll(int howMuch) {
            detail = howMuch;
            skipped = NONE;
            early = NONE;
            late = NONE;
            firstOnly = false;
            for (int p = 0; p < box.pictures.size; p++) {
                firstYear[p] = box.pictures.at(p, Box.FROM);
                years[p] = Math.min(YEARS, box.pictures.at(p, Box.TO) - firstYear[p] + 1);
            }
        }

        void leaveOut(int name) {
            skipped = name;
        }

        /** The WAYS in which a PICTURE was taken in a year; or one of them, to know whether there are any. */
        void lookAtYear(int picture, int year, boolean oneIsEnough) {
            if (box.pictures.has(picture)) {
                firstYear[picture] = year;
                years[picture] = 1;
            }
            firstOnly = oneIsEnough;
        }

        /** The WAYS in which PICTURE a was taken in an earlier year than PICTURE b. */
        void lookInOrder(int a, int b) {
            if (box.pictures.has(a) && box.pictures.has(b)) {
                early = a;
                late = b;
            }
        }

        void sumUp() {
            sums.empty(box.people.size, box.heads.size, detail);
            placeHeads();
            for (int h = 0; h < box.heads.size; h++) {
                for (int i = 0; i <= box.people.size; i++) {
                    int who = whoAt(i, box.people.size);
                    planLikes(h, who);
                    planNamings(h, who);
                }
            }
            Limbs.set(weights, 0, 1);
            takeEmptyPictures();
            descend(0, 0);
            sums.finish(subtotals, 0);
        }

        private void placeHeads() {
            Arrays.fill(closing, ONES);
            for (int h = 0; h < box.heads.size; h++) {
                int picture = box.heads.at(h, Box.PICTURE);
                place[h] = picture;
                before[h] = closing[picture];
                closing[picture] = h;
            }
        }

        private void planLikes(int h, int who) {
            int first = firstYear[place[h]];
            int marks = box.marksLike(h, who);
            int row = h * WHOS + who;
            int sum = 0;
            for (int y = 0; y < years[place[h]]; y++) {
                int like = marks * box.ageLike(h, who, first + y);
                likes[row * YEARS + y] = like;
                sum += like;
            }
            likeSums[row] = sum;
        }

        private void planNamings(int h, int who) {
            int product = 1;
            for (int n = 0; n < box.names.size; n++) {
                if (n != skipped && box.names.at(n, Box.HEAD) == h) {
                    product *= box.isSo(n, who) ? box.truthOf(n) : 10 - box.truthOf(n);
                }
            }
            namings[h * WHOS + who] = product;
        }

        private void takeEmptyPictures() {
            for (int p = 0; p < box.pictures.size; p++) {
                if (closing[p] == ONES && p != early && p != late) {
                    Limbs.multiply(weights, 0, weights, 0, years[p]);
                }
            }
            if (early != NONE && closing[early] == ONES && closing[late] == ONES) {
                Limbs.multiply(weights, 0, weights, 0, yearsInOrder());
            }
        }

        /** Rising HEADS and rising PEOPLE: so the first of like WAYS comes first. crowd: who is on any PICTURE. */
        private void descend(int h, int crowd) {
            if (h >= box.heads.size) {
                Limbs.copy(subtotals, h, weights, h);
                if (detail > TOTAL) {
                    sums.addWay(way, crowd & Sums.CROWDS - 1, weights, h);
                }
                return;
            }
            Limbs.zero(subtotals, h);
            for (int i = 0; i <= box.people.size; i++) {
                int who = whoAt(i, box.people.size);
                if (goesOn(h, who)) {
                    way[h] = who;
                    descend(h + 1, crowd | 1 << who);
                    gather(h, who);
                    if (firstOnly && !Limbs.isZero(subtotals, h)) {
                        return;
                    }
                }
            }
        }

        private void gather(int h, int who) {
            Limbs.add(subtotals, h, subtotals, h + 1);
            if (detail > TOTAL) {
                Limbs.add(sums.shares, h * WHOS + who, subtotals, h + 1);
            }
            if (detail == PAIRS) {
                for (int e = 0; e < h; e++) {
                    sums.addPair(e, way[e], h, who, subtotals, h + 1);
                }
            }
        }

        /** Whether the WAY has a WEIGHT above 0 with this HEAD, too; if it has, it is made. */
        private boolean goesOn(int h, int who) {
            if (isThereAlready(h, who)) {
                return false;
            }
            long told = (long) namings[h * WHOS + who] * joinings(h, who);
            long taken = told == 0 ? 0 : takings(h, who);
            if (taken == 0) {
                return false;
            }
            if (taken < SMALL) {
                Limbs.multiply(weights, h + 1, weights, h, told * taken);
            } else {
                Limbs.multiply(weights, h + 1, weights, h, told);
                Limbs.multiply(weights, h + 1, weights, h + 1, taken);
            }
            return true;
        }

        private boolean isThereAlready(int h, int who) {
            int e = before[h];
            for (int i = 0; i < HEADS && e != ONES && who != STRANGER; i++) {
                if (way[e] == who) {
                    return true;
                }
                e = before[e];
            }
            return false;
        }

        /** What the JOINS bring whose other HEAD is known by now. */
        private int joinings(int h, int who) {
            int product = 1;
            for (int j = 0; j < box.joins.size; j++) {
                int a = box.joins.at(j, Box.A);
                int b = box.joins.at(j, Box.B);
                if (Math.max(a, b) == h) {
                    int w = box.joins.at(j, Box.W);
                    boolean alike = who != STRANGER && way[Math.min(a, b)] == who;
                    product *= alike ? w : 10 - w;
                }
            }
            return product;
        }

        /** What the PICTURE's years bring: 1, while more is to come; 0, if none of them is left. */
        private long takings(int h, int who) {
            int picture = place[h];
            boolean inOrder = picture == early || picture == late;
            if (closing[picture] == h && !inOrder) {
                return before[h] == ONES ? likeSums[h * WHOS + who] : sumYears(h, who);
            }
            if (!multiplyYears(h, who)) {
                return 0;
            }
            return inOrder && areBothTold(h) ? yearsInOrder() : 1;
        }

        /** Whether all HEADS of the two PICTURES in order are told with this HEAD of one of them. */
        private boolean areBothTold(int h) {
            return (closing[early] <= h || closing[early] == ONES) && (closing[late] <= h || closing[late] == ONES);
        }

        private boolean multiplyYears(int h, int who) {
            int from = before[h] * YEARS;
            int at = (h * WHOS + who) * YEARS;
            int many = years[place[h]];
            boolean any = false;
            for (int y = 0; y < many; y++) {
                long product = products[from + y] * likes[at + y];
                products[h * YEARS + y] = product;
                any = any || product != 0;
            }
            return any;
        }

        /** As multiplyYears, of the last HEAD, behind which nothing asks for a single year. */
        private long sumYears(int h, int who) {
            int from = before[h] * YEARS;
            int at = (h * WHOS + who) * YEARS;
            int many = years[place[h]];
            long sum = 0;
            for (int y = 0; y < many; y++) {
                sum += products[from + y] * likes[at + y];
            }
            return sum;
        }

        /** Over all years of the late PICTURE: it in that year, times the early one in any year ahead of that. */
        private long yearsInOrder() {
            long sum = 0;
            long earlier = 0;
            int taken = 0;
            for (int y = 0; y < years[late]; y++) {
                int year = firstYear[late] + y;
                while (taken < years[early] && firstYear[early] + taken < year) {
                    earlier += products[closing[early] * YEARS + taken];
                    taken++;
                }
                sum += earlier * products[closing[late] * YEARS + y];
            }
            return sum;
        }
    }

    /** What the aunt's answer for a HEAD is worth, in parts of unit. */
    private static final class Aunt {
        final long[] worth = new long[Limbs.SIZE];
        final long[] dearest = new long[Limbs.SIZE];
        final long[] unit = new long[Limbs.SIZE];
        private final Box box;
        private final Sums sums;
        private final long[] wrongly = new long[WHOS * Limbs.SIZE];
        private final long[] guess = new long[Limbs.SIZE];
        private final long[] most = new long[Limbs.SIZE];

        Aunt(Box box, Sums sums) {
            this.box = box;
            this.sums = sums;
        }

        /** The HEAD whose WORTH is greatest; that WORTH stands in dearest. */
        int findDearest() {
            int found = 0;
            for (int h = 0; h < box.heads.size; h++) {
                weigh(h);
                if (h == 0 || Limbs.compare(worth, 0, dearest, 0) > 0) {
                    Limbs.copy(dearest, 0, worth, 0);
                    found = h;
                }
            }
            return found;
        }

        /** In parts of ALL times 10 times how many she may say wrongly, all odds of her answers are whole. */
        void weigh(int asked) {
            int people = box.people.size;
            Limbs.zero(worth, 0);
            if (people == 0) {
                Limbs.copy(unit, 0, sums.total, 0);
                return;
            }
            Limbs.multiply(unit, 0, sums.total, 0, 10 * people);
            for (int h = 0; h < box.heads.size; h++) {
                planWrongly(h, asked);
                addBehind(h, asked);
            }
            Limbs.carry(worth, 0);
            sums.startAnswer();
            sums.addLikeliest();
            Limbs.carry(sums.answer, 0);
            Limbs.multiply(guess, 0, sums.answer, 0, 10 * people);
            Limbs.subtract(worth, 0, guess, 0);
        }

        /** For each who of a HEAD what comes to it by any answer as if that one were wrong. */
        private void planWrongly(int h, int asked) {
            for (int i = 0; i <= box.people.size; i++) {
                int who = whoAt(i, box.people.size);
                Limbs.zero(wrongly, who);
                for (int k = 0; k <= box.people.size; k++) {
                    int so = whoAt(k, box.people.size);
                    sums.putJoint(guess, 0, h, who, asked, so);
                    Limbs.multiply(guess, 0, guess, 0, 10 - box.auntTruth(so));
                    Limbs.add(wrongly, who, guess, 0);
                }
            }
        }

        /** Of a HEAD, answer by answer, the greatest share behind it: what she says rightly counts for more. */
        private void addBehind(int h, int asked) {
            int people = box.people.size;
            for (int k = 0; k <= people; k++) {
                int said = whoAt(k, people);
                int more = people * box.auntTruth(said) - (10 - box.auntTruth(said));
                Limbs.zero(most, 0);
                for (int i = 0; i <= people; i++) {
                    int who = whoAt(i, people);
                    sums.putJoint(guess, 0, h, who, asked, said);
                    Limbs.multiply(guess, 0, guess, 0, more);
                    Limbs.add(guess, 0, wrongly, who);
                    Limbs.carry(guess, 0);
                    if (Limbs.compare(guess, 0, most, 0) > 0) {
                        Limbs.copy(most, 0, guess, 0);
                    }
                }
                Limbs.add(worth, 0, most, 0);
            }
        }
    }
}
