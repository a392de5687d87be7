import java.lang.reflect.Method;
import java.util.ArrayList;
import java.util.Arrays;
import java.util.List;

/** A NamelessBox and a PlainBox that are told the same calls; what differs is written down. */
final class Pair {
    static final List<Method> CALLS = calls();

    final NamelessBox box = new NamelessBox();
    final PlainBox plain = new PlainBox();
    final List<String> told = new ArrayList<>();
    boolean same = true;

    private static List<Method> calls() {
        List<Method> l = new ArrayList<>();
        for (Method m : NamelessBox.class.getDeclaredMethods()) {
            if (java.lang.reflect.Modifier.isPublic(m.getModifiers())) {
                l.add(m);
            }
        }
        l.sort((a, b) -> a.getName().compareTo(b.getName()));
        return l;
    }

    static Method named(String name) {
        for (Method m : CALLS) {
            if (m.getName().equals(name)) {
                return m;
            }
        }
        throw new IllegalArgumentException(name);
    }

    long call(String name, long... args) {
        return call(named(name), args);
    }

    long call(Method m, long... args) {
        Object[] boxed = new Object[args.length];
        for (int i = 0; i < args.length; i++) {
            boxed[i] = m.getParameterTypes()[i] == long.class ? (Object) args[i] : (Object) (int) args[i];
        }
        try {
            Method other = PlainBox.class.getDeclaredMethod(m.getName(), m.getParameterTypes());
            long got = ((Number) m.invoke(box, boxed)).longValue();
            long due = ((Number) other.invoke(plain, boxed)).longValue();
            String line = m.getName() + Arrays.toString(boxed) + " answered " + got;
            told.add(line);
            if (got != due || box.digest() != plain.digest()) {
                same = false;
                told.add("   due is " + due + (got == due ? ", and the digest is not as due" : ""));
            }
            return got;
        } catch (ReflectiveOperationException e) {
            same = false;
            told.add(m.getName() + Arrays.toString(boxed) + " threw " + e.getCause());
            return Long.MIN_VALUE;
        }
    }

    void type(String text) {
        for (int at = 0; at < text.length(); at += 8) {
            int n = Math.min(8, text.length() - at);
            long v = 0;
            for (int i = 0; i < n; i++) {
                v = v << 8 | text.charAt(at + i);
            }
            call("type", v, n);
        }
    }

    void print() {
        told.forEach(System.out::println);
    }
}
