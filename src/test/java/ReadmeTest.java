import java.lang.reflect.Method;
import java.lang.reflect.Modifier;
import java.nio.file.Files;
import java.nio.file.Path;
import java.util.regex.Matcher;
import java.util.regex.Pattern;

/** What README.md tells of the class is so. */
public final class ReadmeTest {
    private static final Pattern ROW =
        Pattern.compile("(?m)^\\| `([^`]+)` \\| (\\d+) \\| (NO|-?\\d+) \\| (\\d+) \\|([-0-9 ]*)\\|$");
    private static final int ROWS = 14;

    private static final Due due = new Due();

    private static void example() {
        EscapeFrames x = new EscapeFrames();
        for (char c : "@c(+(1,^c(7)))".toCharArray()) {
            x.feed(c);
        }
        int line = x.line();
        due.is("README: line()", 0, line);
        due.is("README: run(line)", 0, x.run(line));
        due.is("README: told(1)", 7, x.told(1));
        due.is("README: begin(line)", 5, x.begin(line));
        due.is("README: step(3)", 3, x.step(3));
        due.is("README: told(8)", 0, x.told(8));
    }

    private static void rows(String page) {
        Matcher row = ROW.matcher(page);
        int rows = 0;
        while (row.find()) {
            rows++;
            row(row.group(1), Long.parseLong(row.group(2)), row.group(3), Long.parseLong(row.group(4)),
                row.group(5).trim());
        }
        due.is("README: rows of LINES", ROWS, rows);
    }

    private static void row(String text, long status, String result, long deepest, String out) {
        EscapeFrames x = new EscapeFrames();
        String of = "README: " + text + ": ";
        due.is(of + "line()", 0, Due.line(x, text));
        due.is(of + "define(0, 0)", -5, x.define(0, 0));
        due.is(of + "run(0)", status, x.run(0));
        due.is(of + "told(1)", result.equals("NO") ? EscapeFrames.NO : Long.parseLong(result), x.told(1));
        due.is(of + "told(3)", deepest, x.told(3));
        String[] numbers = out.isEmpty() ? new String[0] : out.split(" +");
        due.is(of + "told(4)", numbers.length, x.told(4));
        for (int k = 0; k < numbers.length; k++) {
            due.is(of + "told(40 + " + k + ")", Long.parseLong(numbers[k]), x.told(40 + k));
        }
    }

    private static void calls(String page) {
        for (Method m : EscapeFrames.class.getDeclaredMethods()) {
            if (Modifier.isPublic(m.getModifiers())) {
                boolean named = Pattern.compile("\\| .*`" + m.getName() + "\\([^`]*\\)`.* \\|").matcher(page).find();
                due.is("README names " + m.getName(), 1, named ? 1 : 0);
            }
        }
    }

    public static void main(String[] args) throws Exception {
        String page = Files.readString(Path.of("README.md"));
        example();
        rows(page);
        calls(page);
        due.end("ReadmeTest");
    }
}
