import java.io.IOException;
import java.lang.reflect.Constructor;
import java.lang.reflect.Field;
import java.lang.reflect.Member;
import java.lang.reflect.Method;
import java.lang.reflect.Modifier;
import java.nio.file.Files;
import java.nio.file.Path;
import java.util.ArrayList;
import java.util.Arrays;
import java.util.List;
import java.util.TreeSet;
import java.util.regex.Matcher;
import java.util.regex.Pattern;

/** The face is the document's and no more; the source keeps to what of ../shared/LANGUAGE.md words and counts show. */
public final class FaceTest {
    private static final Path SOURCE = Path.of("src/main/java/TrueHeard.java");

    private static final String[] CALLS = {
        "int feed(int)", "int coast()", "int saying()", "int thing(int)", "int put(int, int)", "int of(int, int)",
        "int way(int, int, int, int)", "int at(int, int)", "int bribe(int, int)", "int now()", "int hour(int)",
        "long odds(int, int, int)", "int sure(int, int)", "int tell(int, int)", "int which(int)",
        "long worth(int, int, int, int, int)", "int sit(int, int)", "int catches(int, int, int)", "int all(int)",
        "int begin(int, int, int)", "int heed(int, int)", "long self(int, int, int, int)",
        "int back(int, int, int)", "int row(int)", "int looked()", "int act(int, int, int)", "int trace(int)",
        "int as(int, int)", "int image()", "int undo()", "int count(int)",
    };

    private static final String[] FORBIDDEN = {
        "\\bthrow\\b", "\\btry\\b", "\\bcatch\\b", "\\bsynchronized\\b", "\\bassert\\b", "->", "::", "@",
        "\\bfloat\\b", "\\bdouble\\b", "Exact\\b", "\\bequals\\b", "\\bhashCode\\b", "\\btoString\\b",
        "\\bSystem\\.(?!arraycopy\\b)", "\\bThread\\b", "\\bpackage\\b", "\\bstatic\\s*\\{", "[^\\x00-\\x7f]",
    };

    private static int wrong;

    private static void must(boolean holds, String what) {
        if (!holds) {
            wrong++;
            System.out.println("not so: " + what);
        }
    }

    private static String parameters(Class<?>[] types) {
        List<String> names = new ArrayList<>();
        for (Class<?> type : types) {
            names.add(type.getSimpleName());
        }
        return "(" + String.join(", ", names) + ")";
    }

    private static void face() {
        Class<?> c = TrueHeard.class;
        must(Modifier.isPublic(c.getModifiers()) && Modifier.isFinal(c.getModifiers()), "public and final");
        TreeSet<String> calls = new TreeSet<>();
        TreeSet<String> names = new TreeSet<>();
        for (Method m : c.getDeclaredMethods()) {
            if (Modifier.isPublic(m.getModifiers())) {
                calls.add(m.getReturnType().getSimpleName() + " " + m.getName() + parameters(m.getParameterTypes()));
                names.add(m.getName());
            }
            open(m);
        }
        must(calls.equals(new TreeSet<>(Arrays.asList(CALLS))), "the calls are the document's: " + calls);
        Constructor<?>[] constructors = c.getDeclaredConstructors();
        must(constructors.length == 1 && constructors[0].getParameterCount() == 0, "one constructor");
        must(Modifier.isPublic(constructors[0].getModifiers()), "a public one");
        TreeSet<String> constants = new TreeSet<>();
        for (Field f : c.getDeclaredFields()) {
            if (Modifier.isPublic(f.getModifiers())) {
                constants.add(f.getType().getSimpleName() + " " + f.getName());
            }
            open(f);
        }
        must(constants.toString().equals("[int BAD, int FULL, int NONE, int STATE, long NO]"), "constants: " + constants);
        privateNames(names);
    }

    private static void open(Member m) {
        int how = m.getModifiers();
        must(Modifier.isPublic(how) || Modifier.isPrivate(how) || m.isSynthetic(), m.getName() + " is public or private");
    }

    private static void privateNames(TreeSet<String> names) {
        Class<?>[] inside = TrueHeard.class.getDeclaredClasses();
        must(inside.length <= 11, "twelve classes at most: " + inside.length);
        for (Method m : TrueHeard.class.getDeclaredMethods()) {
            must(Modifier.isPublic(m.getModifiers()) || !names.contains(m.getName()), m.getName() + " is private");
        }
        for (Class<?> one : inside) {
            must(Modifier.isStatic(one.getModifiers()), one.getName() + " is static");
            must(one.getDeclaredFields().length <= 28, one.getName() + " has few fields");
            for (Method m : one.getDeclaredMethods()) {
                must(!names.contains(m.getName()), m.getName() + " inside bears a public name");
                must(m.getParameterCount() <= 7, m.getName() + " takes at most seven");
            }
        }
    }

    private static void words() throws IOException {
        String source = Files.readString(SOURCE);
        String code = source.replaceAll("(?s)/\\*.*?\\*/", "").replaceAll("//[^\n]*", "");
        for (String word : FORBIDDEN) {
            Matcher m = Pattern.compile(word).matcher(code);
            must(!m.find(), "the source is without " + word);
        }
        Matcher imports = Pattern.compile("import ([^;]*);").matcher(code);
        while (imports.find()) {
            must(imports.group(1).equals("java.util.Arrays"), "no import of " + imports.group(1));
        }
        lengths(source);
        callsItself(code);
    }

    /** Only methods that are private and static may; a body that goes to the KIND above by super does not. */
    private static void callsItself(String code) {
        String name = "";
        for (String line : code.split("\n")) {
            Matcher head = Pattern.compile(" {4}(?: {4})?[a-z].*?(\\w+)\\([^()]*\\) \\{").matcher(line);
            if (head.matches()) {
                name = line.contains("private static ") ? "" : head.group(1);
            } else if (!name.isEmpty()) {
                boolean calls = Pattern.compile("(?<![.\\w])" + name + "\\(").matcher(line).find();
                must(!calls, name + " calls itself: " + line.trim());
            }
        }
    }

    private static void lengths(String source) {
        int begin = 0;
        String[] lines = source.split("\n");
        for (int i = 0; i < lines.length; i++) {
            if (lines[i].matches(" {4}(?: {4})?[a-z].*\\) \\{")) {
                begin = i;
            }
            if (lines[i].matches(" {4}(?: {4})?\\}")) {
                must(i - begin < 60, "a method of some sixty lines at line " + begin);
            }
        }
    }

    public static void main(String[] args) throws IOException {
        face();
        words();
        System.out.println(wrong == 0 ? "the face is the document's" : wrong + " faults of the face");
        if (wrong != 0) {
            System.exit(1);
        }
    }
}
