import java.lang.management.ManagementFactory;
import java.util.Random;

/** All calls of a run live in one room: a NamelessBox makes its rows once, and its calls make nothing. */
public final class RoomTest {
    private static long allocated() {
        return ((com.sun.management.ThreadMXBean) ManagementFactory.getThreadMXBean()).getCurrentThreadAllocatedBytes();
    }

    private static void build(NamelessBox x) {
        for (int p = 0; p < 5; p++) {
            x.person(p, 100, p, 7);
        }
        for (int p = 0; p < 4; p++) {
            x.picture(10 + p, 15 + p);
        }
        for (int h = 0; h < 6; h++) {
            x.head(h % 4, h, 15, 5, 9);
        }
        x.name(2, 0, 1, 2);
        x.join(0, 1, 7);
        x.join(2, 5, 7);
    }

    private static void askAll(NamelessBox x, Random random) {
        x.strange(random.nextInt(9) + 1);
        x.all();
        x.who(1, 1);
        x.named(2);
        x.best(3);
        x.sure(50);
        x.falls(50, 0);
        x.same(0, 4);
        x.noneOf(1);
        x.friend(1);
        x.of(0, 1);
        x.when(0, 12);
        x.span(0, 1);
        x.ahead(0, 1);
        x.parts(0, 1);
        x.doubt(0, 1);
        x.right();
        x.ask(1);
        x.next();
        x.image(0);
        x.from(0);
        x.type(0x73747261L, 4);
        x.type(0x6e67652031303bL, 7);
        x.read();
        x.clear();
        x.digest();
    }

    public static void main(String[] args) {
        Random random = new Random(1);
        NamelessBox warm = new NamelessBox();
        build(warm);
        askAll(warm, random);
        allocated();
        long start = allocated();
        NamelessBox x = new NamelessBox();
        long made = allocated() - start;
        build(x);
        start = allocated();
        for (int i = 0; i < 18; i++) {
            askAll(x, random);
        }
        long called = allocated() - start;
        System.out.println("a NamelessBox takes " + made + " bytes, its calls " + called);
        if (made > 150000 || called > 20000) {
            System.exit(1);
        }
    }
}
