import java.io.IOException;
import java.lang.reflect.Field;
import java.lang.reflect.Method;
import java.lang.reflect.Modifier;
import java.nio.file.Files;
import java.nio.file.Path;
import java.util.List;
import java.util.TreeSet;
import java.util.regex.Matcher;
import java.util.regex.Pattern;

/** The face of the class as the document has it, and what LANGUAGE.md rules out, as far as a look can tell. */
public final class FaceTest {
    private static final String FACE = "int person(int,int,int,int); int parent(int,int); int near(int,int); "
            + "int picture(int,int); int head(int,int,int,int,int); int name(int,int,int,int); int join(int,int,int); "
            + "int strange(int); int mark(int,int); int like(int,int,int); int truth(int); int type(long,int); "
            + "int clear(); int read(); int who(int,int); int named(int); int best(int); int all(); int sure(int); "
            + "int falls(int,int); int same(int,int); int noneOf(int); int friend(int); int of(int,int); "
            + "int when(int,int); int span(int,int); int ahead(int,int); int parts(int,int); int doubt(int,int); "
            + "int right(); int ask(int); int next(); int sign(int); int limb(int,int); int image(int); int from(int); "
            + "int status(int); int count(int); long digest()";

    private static int wrong = 0;

    private static void check(boolean holds, String what) {
        if (!holds) {
            wrong++;
            System.out.println(what);
        }
    }

    private static String told(Method m) {
        StringBuilder b = new StringBuilder(m.getReturnType() + " " + m.getName() + "(");
        for (Class<?> c : m.getParameterTypes()) {
            b.append(b.charAt(b.length() - 1) == '(' ? "" : ",").append(c);
        }
        return b.append(")").toString();
    }

    private static void face() {
        TreeSet<String> due = new TreeSet<>(List.of(FACE.split("; ")));
        TreeSet<String> there = new TreeSet<>();
        TreeSet<String> publicNames = new TreeSet<>();
        for (Method m : NamelessBox.class.getDeclaredMethods()) {
            if (Modifier.isPublic(m.getModifiers())) {
                there.add(told(m));
                publicNames.add(m.getName());
            } else {
                check(Modifier.isPrivate(m.getModifiers()), "not private: " + m);
            }
        }
        check(due.equals(there), "the face is " + there);
        for (Method m : NamelessBox.class.getDeclaredMethods()) {
            check(Modifier.isPublic(m.getModifiers()) || !publicNames.contains(m.getName()), "bears a public name: " + m);
            check(m.getParameterCount() <= 7, "too many parameters: " + m);
        }
        TreeSet<String> constants = new TreeSet<>();
        for (Field f : NamelessBox.class.getDeclaredFields()) {
            if (Modifier.isPublic(f.getModifiers())) {
                constants.add(f.getName());
            } else {
                check(Modifier.isPrivate(f.getModifiers()), "not private: " + f);
            }
        }
        check(constants.equals(new TreeSet<>(List.of("NONE", "BAD", "NO", "FULL"))), "the constants are " + constants);
        check(NamelessBox.class.getConstructors().length == 1, "one constructor is due");
        check(Modifier.isFinal(NamelessBox.class.getModifiers()), "the class is not final");
        inside(publicNames);
    }

    private static void inside(TreeSet<String> publicNames) {
        Class<?>[] classes = NamelessBox.class.getDeclaredClasses();
        check(classes.length <= 12, "too many classes");
        for (Class<?> c : classes) {
            check(Modifier.isStatic(c.getModifiers()) && Modifier.isPrivate(c.getModifiers()), c + " is not static, private");
            int fields = 0;
            for (Field f : c.getDeclaredFields()) {
                boolean isStatic = Modifier.isStatic(f.getModifiers());
                check(!isStatic || Modifier.isFinal(f.getModifiers()), "static and not final: " + f);
                fields += isStatic ? 0 : 1;
            }
            check(fields <= 20, c + " has " + fields + " fields");
            for (Method m : c.getDeclaredMethods()) {
                check(!publicNames.contains(m.getName()), "bears a public name: " + m);
                check(m.getParameterCount() <= 7, "too many parameters: " + m);
            }
        }
    }

    private static String withoutCommentsAndTexts(String source) {
        return source.replaceAll("(?s)/\\*.*?\\*/", " ").replaceAll("//[^\n]*", " ")
                .replaceAll("\"[^\"\n]*\"", "\"\"").replaceAll("'[^'\n]*'", "' '");
    }

    private static void language() throws IOException {
        String source = Files.readString(Path.of("src/main/java/NamelessBox.java"));
        check(source.chars().allMatch(c -> c == '\n' || c >= 32 && c < 127), "a sign that is none of 32 .. 126");
        String code = withoutCommentsAndTexts(source);
        String[] ruledOut = {"\\b(throw|try|catch|synchronized|assert|volatile|transient|native|package)\\b", "->", "::",
            "\\b(System\\.(?!arraycopy)\\w+)", "\\b(Thread|Runtime|Random|Object|String\\.(format|valueOf))\\b",
            "\\w+Exact\\b", "\\bstatic\\s*\\{", "\\bimport\\s+(?!java\\.util\\.(Arrays|ArrayList|List|Iterator);)",
            "\\b(hashCode|toString|equals)\\s*\\(", "\\b(float|double)\\b", "[^=!<>]=\\s*null\\b"};
        for (String pattern : ruledOut) {
            Matcher m = Pattern.compile(pattern).matcher(code);
            while (m.find()) {
                check(false, "ruled out: " + m.group());
            }
        }
        String[] lines = source.split("\n");
        int start = -1;
        for (int i = 0; i < lines.length; i++) {
            if (lines[i].matches(" {4}( {4})?[\\w\\[\\] ]*\\w+\\(.*\\{")) {
                start = i;
            }
            if (start >= 0 && lines[i].matches(" {4}( {4})?\\}")) {
                check(i - start < 60, "a long method: " + lines[start]);
                start = -1;
            }
            check(lines[i].length() <= 130, "a long line: " + (i + 1));
        }
    }

    public static void main(String[] args) throws IOException {
        face();
        language();
        System.out.println(wrong == 0 ? "the face is as due" : wrong + " faults");
        if (wrong != 0) {
            System.exit(1);
        }
    }
}
