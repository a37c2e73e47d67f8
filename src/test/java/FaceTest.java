import java.io.IOException;
import java.lang.reflect.Field;
import java.lang.reflect.Method;
import java.lang.reflect.Modifier;
import java.nio.charset.StandardCharsets;
import java.nio.file.Files;
import java.nio.file.Path;
import java.util.Set;
import java.util.TreeSet;
import java.util.regex.Matcher;
import java.util.regex.Pattern;

/** The public face as the document has it, and what of LANGUAGE.md can be seen from outside or in the text. */
public final class FaceTest {
    private static final Checks CHECKS = new Checks();

    private static final String[] FACE = {
        "int sail(int, int)", "int make(int, int, boolean)", "int of(int, int)", "int set(int, int)", "int hoist(int)",
        "int ship(int)", "int feed(int, int)", "int race()", "int speed(int, int, int, int)", "int follows(int, int)",
        "int rule(int, int)", "int line(int, int, int)", "int told(int, int, int)", "int picks(int)",
        "int go(int, boolean, int)", "long mean(int, int, int)", "long sure(int, int, int, int)", "int edge(int)",
        "int few(int, int, int)", "long torn(int, int, int, int)", "long sleep(int, int, int)", "int lines(int, int)",
        "int squall(int)", "int made(int)", "int worst(int, int)", "int judge(int, int)", "int image()", "int undo()",
        "int act(int, int, int)", "int trace(int)", "int taken(int, int)", "int count(int)", "int tape(int, int, int)",
        "int item(int, int, long)", "long read(int, int)", "int shift(int, int, int, int, int)",
    };
    private static final String[] CONSTANTS = {"int NONE", "int BAD", "int STATE", "int FULL", "long NO"};

    private static void holds(String what, boolean is) { CHECKS.due(what, is ? 1 : 0, 1); }

    private static String shown(Method m) {
        StringBuilder b = new StringBuilder(m.getReturnType().getName()).append(' ').append(m.getName()).append('(');
        Class<?>[] types = m.getParameterTypes();
        for (int i = 0; i < types.length; i++) b.append(i > 0 ? ", " : "").append(types[i].getName());
        return b.append(')').toString();
    }

    private static Set<String> face() {
        Class<?> c = NineSails.class;
        holds("public and final", Modifier.isPublic(c.getModifiers()) && Modifier.isFinal(c.getModifiers()));
        holds("one constructor", c.getDeclaredConstructors().length == 1 && c.getConstructors().length == 1);
        holds("without parameters", c.getConstructors()[0].getParameterCount() == 0);
        Set<String> names = new TreeSet<>();
        Set<String> found = new TreeSet<>();
        for (Method m : c.getDeclaredMethods()) {
            if (Modifier.isPrivate(m.getModifiers())) continue;
            holds(m + " is public and of the object", Modifier.isPublic(m.getModifiers()) && !Modifier.isStatic(m.getModifiers()));
            found.add(shown(m));
            names.add(m.getName());
        }
        holds("the methods are " + found, found.equals(new TreeSet<>(java.util.Arrays.asList(FACE))));
        Set<String> constants = new TreeSet<>();
        for (Field f : c.getDeclaredFields()) {
            if (!Modifier.isPrivate(f.getModifiers())) constants.add(f.getType().getName() + " " + f.getName());
            if (Modifier.isPublic(f.getModifiers())) holds(f + " is a constant", Modifier.isStatic(f.getModifiers()) && Modifier.isFinal(f.getModifiers()));
        }
        holds("the constants are " + constants, constants.equals(new TreeSet<>(java.util.Arrays.asList(CONSTANTS))));
        return names;
    }

    private static void inside(Class<?> c, Set<String> names) {
        int fields = 0;
        for (Field f : c.getDeclaredFields()) {
            if (Modifier.isStatic(f.getModifiers())) holds(f + " is final", Modifier.isFinal(f.getModifiers())); else fields++;
        }
        holds(c + " has few fields: " + fields, fields <= 20);
        for (Method m : c.getDeclaredMethods()) {
            holds(m + " takes few", m.getParameterCount() <= 7);
            if (c != NineSails.class || Modifier.isPrivate(m.getModifiers())) holds(m + " has a name of its own", !names.contains(m.getName()));
            holds(m + " is written", !m.isSynthetic());
        }
    }

    private static void text(String source) {
        String code = source.replaceAll("(?s)/\\*.*?\\*/", "").replaceAll("//[^\n]*", "");
        String bare = code.replaceAll("\"[^\"\n]*\"", "\"\"").replaceAll("'(\\\\.|[^'])'", "' '");
        String[] ruledOut = {
            "\\b(throw|throws|try|catch|finally|synchronized|assert|native|volatile|transient|strictfp|var|yield)\\b",
            "->", "::", "\\b(Object|Exception|Thread|Random|System\\.(?!arraycopy))\\b", "\\bjava\\.(?!util\\.Arrays;)",
            "\"\\s*\\+|\\+\\s*\"", "\\w+Exact\\b", "\\b(hashCode|toString|finalize)\\b", "static\\s*\\{", "while\\s*\\(true\\)|for\\s*\\(;;\\)",
        };
        for (String out : ruledOut) {
            Matcher m = Pattern.compile(out).matcher(bare);
            holds("without " + out, !m.find());
        }
        for (int i = 0; i < source.length(); i++) {
            if (source.charAt(i) > 126 || source.charAt(i) < 32 && source.charAt(i) != '\n') {
                holds("plain signs, place " + i, false);
            }
        }
        int from = -1;
        String[] lines = source.split("\n");
        for (int i = 0; i < lines.length; i++) {
            boolean begins = lines[i].matches(" {4}(?: {4})?[\\w].*\\) \\{");
            if (begins) from = i;
            if (from >= 0 && lines[i].matches(" {4}(?: {4})?\\}")) {
                holds("line " + (from + 1) + " begins a short method", i - from <= 60);
                from = -1;
            }
            holds("line " + (i + 1) + " is short", lines[i].length() <= 120);
        }
    }

    public static void main(String[] args) throws IOException {
        Set<String> names = face();
        inside(NineSails.class, names);
        Class<?>[] classes = NineSails.class.getDeclaredClasses();
        holds("few classes", classes.length <= 11);
        for (Class<?> c : classes) {
            holds(c + " is static", Modifier.isStatic(c.getModifiers()));
            holds(c + " is inside", !Modifier.isPublic(c.getModifiers()) && !Modifier.isProtected(c.getModifiers()));
            holds(c + " has no class inside", c.getDeclaredClasses().length == 0);
            inside(c, names);
        }
        text(new String(Files.readAllBytes(Path.of(args[0])), StandardCharsets.ISO_8859_1));
        CHECKS.end();
    }
}
