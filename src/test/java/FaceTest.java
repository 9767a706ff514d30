import java.lang.reflect.Constructor;
import java.lang.reflect.Field;
import java.lang.reflect.Member;
import java.lang.reflect.Method;
import java.lang.reflect.Modifier;
import java.nio.file.Files;
import java.nio.file.Path;
import java.util.ArrayList;
import java.util.List;
import java.util.TreeSet;
import java.util.regex.Matcher;
import java.util.regex.Pattern;

/** The public face is the document's, and the source keeps to what LANGUAGE.md lets it say. */
public final class FaceTest {
    private static final String[] METHODS = {
        "int feed(int)", "int line()", "int of(int,int)", "int define(int,int)", "long value(int,int)",
        "int begin(int)", "int step(int)", "int run(int)", "long told(int)",
        "long on(int,int)", "int see(int,int)", "int fits(int,int,int)", "int alike(int,int)",
        "long odds(int,int,int)", "long mean(int,int)",
        "int plan(int,int)", "long ends(int)", "int book(int,int)", "int looked()",
        "int judge(int,int)", "int image()", "int undo()", "int count(int)", "int tape(int,int,int)",
        "int item(int,int,long)", "long read(int,int)", "int shift(int,int,int,int,int)",
    };
    private static final String[] CONSTANTS = {"int NONE=-1", "int BAD=-2", "int STATE=-3", "int FULL=-4",
        "long NO=" + Long.MIN_VALUE};
    private static final String[] WORDS = {"throw", "throws", "try", "catch", "finally", "synchronized", "assert",
        "import", "package", "native", "volatile", "transient", "protected", "Object", "equals", "hashCode", "toString",
        "Exception", "var", "System\\.(?!arraycopy)\\w+", "->", "::", "Exact", "static\\s*\\{", "NaN"};

    private static final Due due = new Due();

    private static boolean open(Member m) {
        return !Modifier.isPrivate(m.getModifiers()) && !m.isSynthetic();
    }

    private static void face() throws IllegalAccessException {
        TreeSet<String> methods = new TreeSet<>();
        TreeSet<String> closed = new TreeSet<>();
        TreeSet<String> names = new TreeSet<>();
        for (Method m : EscapeFrames.class.getDeclaredMethods()) {
            if (!open(m)) {
                closed.add(m.getName());
                continue;
            }
            List<String> types = new ArrayList<>();
            for (Class<?> type : m.getParameterTypes()) {
                types.add(type.getName());
            }
            boolean plain = m.getModifiers() == Modifier.PUBLIC;
            methods.add((plain ? "" : "?") + m.getReturnType() + " " + m.getName() + "(" + String.join(",", types) + ")");
            names.add(m.getName());
        }
        due.is("methods " + methods, 1, methods.equals(new TreeSet<>(List.of(METHODS))) ? 1 : 0);
        closed.retainAll(names);
        due.is("private methods of a public one's name: " + closed, 0, closed.size());
        TreeSet<String> constants = new TreeSet<>();
        for (Field f : EscapeFrames.class.getDeclaredFields()) {
            if (open(f)) {
                constants.add(f.getType() + " " + f.getName() + "=" + f.get(null));
                int wanted = Modifier.PUBLIC | Modifier.STATIC | Modifier.FINAL;
                due.is(f.getName() + " is public, static and final", wanted, f.getModifiers());
            }
        }
        due.is("constants " + constants, 1, constants.equals(new TreeSet<>(List.of(CONSTANTS))) ? 1 : 0);
        Constructor<?>[] made = EscapeFrames.class.getDeclaredConstructors();
        due.is("one constructor", 1, made.length);
        due.is("of no parameter, public", Modifier.PUBLIC, made[0].getParameterCount() + made[0].getModifiers());
        due.is("public and final", Modifier.PUBLIC | Modifier.FINAL, EscapeFrames.class.getModifiers());
    }

    private static void classes() {
        Class<?>[] inside = EscapeFrames.class.getDeclaredClasses();
        due.is("some twelve classes", 1, inside.length <= 12 ? 1 : 0);
        for (Class<?> c : inside) {
            due.is(c + " is static", 1, Modifier.isStatic(c.getModifiers()) ? 1 : 0);
            due.is(c + " is not public", 0, Modifier.isPublic(c.getModifiers()) ? 1 : 0);
            int fields = 0;
            for (Field f : c.getDeclaredFields()) {
                boolean still = Modifier.isStatic(f.getModifiers());
                due.is(f + " is final, if static", 1, !still || Modifier.isFinal(f.getModifiers()) ? 1 : 0);
                fields += still ? 0 : 1;
            }
            due.is(c + ": some twenty fields", 1, fields <= 20 ? 1 : 0);
            for (Method m : c.getDeclaredMethods()) {
                due.is(m + ": seven parameters", 1, m.getParameterCount() <= 7 ? 1 : 0);
            }
        }
    }

    private static void words(String source) {
        String code = source.replaceAll("(?s)/\\*.*?\\*/", " ").replaceAll("//[^\n]*", " ");
        for (String word : WORDS) {
            boolean name = Character.isLetter(word.charAt(0));
            Matcher m = Pattern.compile(name ? "\\b" + word + "\\b" : word).matcher(code);
            due.is("the word " + word, 0, m.find() ? 1 : 0);
        }
        int lines = 0;
        for (String line : source.split("\n")) {
            lines = line.startsWith("    }") || line.startsWith("        }") && !line.startsWith("         ") ? 0 : lines + 1;
            due.is("a method of some sixty lines, at: " + line, 1, lines <= 60 ? 1 : 0);
            due.is("plain signs: " + line, 1, line.chars().allMatch(c -> c < 127) ? 1 : 0);
        }
    }

    public static void main(String[] args) throws Exception {
        face();
        classes();
        words(Files.readString(Path.of("src/main/java/EscapeFrames.java")));
        due.end("FaceTest");
    }
}
