import java.io.IOException;
import java.lang.reflect.Method;
import java.nio.file.Files;
import java.nio.file.Path;
import java.util.HashMap;
import java.util.Map;
import java.util.regex.Matcher;
import java.util.regex.Pattern;

/** The examples of README.md, line by line: each call answers the number that stands behind it. */
public final class ReadmeTest {
    private static final String NEW_BOX = "NamelessBox box = new NamelessBox();";
    private static final Pattern CALL = Pattern.compile("(?:int (\\w+) = )?box\\.(\\w+)\\(([^)]*)\\);\\s+// (-?\\d+)(:.*)?");

    private final Map<String, Long> known = new HashMap<>(Map.of("NamelessBox.NONE", -1L));
    private NamelessBox box = null;
    private int calls = 0;
    private int wrong = 0;

    private long valueOf(String word) {
        if (known.containsKey(word)) {
            return known.get(word);
        }
        return word.startsWith("0x") ? Long.parseLong(word.substring(2, word.length() - 1), 16) : Long.parseLong(word);
    }

    private long answer(String name, String words) throws ReflectiveOperationException {
        Method call = Pair.named(name);
        String[] parts = words.isEmpty() ? new String[0] : words.split(", ");
        Object[] numbers = new Object[parts.length];
        for (int i = 0; i < parts.length; i++) {
            long v = valueOf(parts[i]);
            numbers[i] = call.getParameterTypes()[i] == long.class ? (Object) v : (Object) (int) v;
        }
        return ((Number) call.invoke(box, numbers)).longValue();
    }

    private void run(String line) throws ReflectiveOperationException {
        if (line.equals(NEW_BOX)) {
            box = new NamelessBox();
            return;
        }
        Matcher m = CALL.matcher(line);
        if (!m.matches()) {
            wrong++;
            System.out.println("no call with its answer: " + line);
            return;
        }
        calls++;
        long got = answer(m.group(2), m.group(3));
        if (m.group(1) != null) {
            known.put(m.group(1), got);
        }
        if (got != Long.parseLong(m.group(4))) {
            wrong++;
            System.out.println(line + " -- answered " + got);
        }
    }

    public static void main(String[] args) throws IOException, ReflectiveOperationException {
        ReadmeTest test = new ReadmeTest();
        boolean inside = false;
        for (String line : Files.readAllLines(Path.of("README.md"))) {
            if (line.startsWith("```")) {
                inside = line.equals("```java");
            } else if (inside) {
                test.run(line);
            }
        }
        System.out.println(test.calls - test.wrong + " of " + test.calls + " examples are as README.md says");
        if (test.wrong != 0 || test.calls == 0) {
            System.exit(1);
        }
    }
}
