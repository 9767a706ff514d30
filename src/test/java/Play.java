import java.lang.reflect.Method;
import java.util.ArrayList;
import java.util.HashMap;
import java.util.List;
import java.util.Map;

/**
 * Plays a row of calls, told as a text, on a new object of the class and on a new Model: each answer
 * must be the one told, of both. So an answer told by hand is looked at by the Model, too.
 *
 * <p>A call is told as name(1,2)=7; without the =7 its answer is not looked at. An argument 0..3 is
 * four calls, with four answers behind the = (or one, for all). 100*feed(49) is a hundred calls.
 * '+(1,2)'=0 feeds each sign, then line() answers 0. STOOD= is told(0..3), AT= is told(5..8), OUT=
 * is all of OUT, and that there is no more.
 */
final class Play {
    /** An object is used for so many calls: beyond them its answers are free. */
    static final int MOST_CALLS = 512;

    private static final Map<String, Long> NAMED = new HashMap<>();
    private static final Map<String, Method> FACE = new HashMap<>();
    private static final Map<String, Method> MODEL = new HashMap<>();

    static {
        NAMED.put("NO", Long.MIN_VALUE);
        NAMED.put("NONE", -1L);
        NAMED.put("BAD", -2L);
        NAMED.put("STATE", -3L);
        NAMED.put("FULL", -4L);
        NAMED.put("NOTHING", -11L);
        NAMED.put("CAST", -12L);
        NAMED.put("PLACE", -13L);
        NAMED.put("SIZE", -14L);
        NAMED.put("MAX", (long) Integer.MAX_VALUE);
        NAMED.put("MIN", (long) Integer.MIN_VALUE);
        NAMED.put("MAXLONG", Long.MAX_VALUE);
        try {
            for (Method m : EscapeFrames.class.getDeclaredMethods()) {
                if (java.lang.reflect.Modifier.isPublic(m.getModifiers())) {
                    FACE.put(m.getName(), m);
                    MODEL.put(m.getName(), Model.class.getDeclaredMethod(m.getName(), m.getParameterTypes()));
                }
            }
        } catch (NoSuchMethodException e) {
            throw new IllegalStateException(e);
        }
    }

    private final Due due;
    private final String sentence;
    private final EscapeFrames real = new EscapeFrames();
    private final Model model = new Model();
    private int calls;

    private Play(Due due, String sentence) {
        this.due = due;
        this.sentence = sentence;
    }

    /** A sentence of the document holds, if all these calls answer as told. */
    static void holds(Due due, String sentence, String... rows) {
        Play play = new Play(due, sentence);
        for (String row : rows) {
            for (String call : row.trim().split("\\s+")) {
                play.call(call);
            }
        }
        due.is(sentence + ": calls beyond what is promised", 0, Math.max(0, play.calls - MOST_CALLS));
    }

    private void call(String call) {
        if (call.startsWith("'")) {
            int end = call.lastIndexOf('\'');
            for (char sign : call.substring(1, end).toCharArray()) {
                ask("feed", new long[] {sign}, null);
            }
            ask("line", new long[0], end + 1 < call.length() ? number(call.substring(end + 2)) : null);
            return;
        }
        int is = call.indexOf('=');
        String[] wants = is < 0 ? new String[0] : call.substring(is + 1).split(",");
        String what = is < 0 ? call : call.substring(0, is);
        switch (what) {
            case "STOOD": rows("told(0..3)", wants); return;
            case "AT": rows("told(5..8)", wants); return;
            case "OUT": out(is + 1 == call.length() ? new String[0] : wants); return;
            default: rows(what, wants);
        }
    }

    private void out(String[] wants) {
        rows("told(4)", new String[] {"" + wants.length});
        if (wants.length > 0) {
            rows("told(40.." + (39 + wants.length) + ")", wants);
        }
        rows("told(" + (40 + wants.length) + ")", new String[] {"NO"});
    }

    private void rows(String call, String[] wants) {
        int times = 1;
        if (call.indexOf('*') > 0) {
            times = Integer.parseInt(call.substring(0, call.indexOf('*')));
            call = call.substring(call.indexOf('*') + 1);
        }
        String name = call.substring(0, call.indexOf('('));
        String inner = call.substring(name.length() + 1, call.length() - 1);
        List<long[]> argued = argued(inner.isEmpty() ? new String[0] : inner.split(","));
        if (wants.length > 1 && wants.length != argued.size()) {
            throw new IllegalStateException(sentence + ": " + call + ": " + wants.length + " answers");
        }
        for (int t = 0; t < times; t++) {
            for (int i = 0; i < argued.size(); i++) {
                ask(name, argued.get(i), wants.length == 0 ? null : number(wants[wants.length == 1 ? 0 : i]));
            }
        }
    }

    /** All rows of arguments that the ranges among them tell. */
    private static List<long[]> argued(String[] told) {
        List<long[]> rows = new ArrayList<>();
        rows.add(new long[told.length]);
        for (int k = 0; k < told.length; k++) {
            int dots = told[k].indexOf("..");
            long from = number(dots < 0 ? told[k] : told[k].substring(0, dots));
            long to = dots < 0 ? from : number(told[k].substring(dots + 2));
            List<long[]> more = new ArrayList<>();
            for (long[] row : rows) {
                for (long n = 0; n <= to - from; n++) {
                    long[] next = row.clone();
                    next[k] = from + n;
                    more.add(next);
                }
            }
            rows = more;
        }
        return rows;
    }

    private static Long number(String told) {
        return NAMED.containsKey(told) ? NAMED.get(told) : (Long) Long.parseLong(told);
    }

    private void ask(String name, long[] args, Long want) {
        calls++;
        long got = invoke(FACE.get(name), real, args);
        long modelled = invoke(MODEL.get(name), model, args);
        String call = sentence + ": call " + calls + ", " + name + java.util.Arrays.toString(args);
        due.is(call, want == null ? modelled : want, got);
        if (want != null && modelled != want) {
            due.is(call + " OF THE MODEL", want, modelled);
        }
    }

    private static long invoke(Method m, Object on, long[] args) {
        Class<?>[] types = m.getParameterTypes();
        Object[] given = new Object[types.length];
        for (int i = 0; i < types.length; i++) {
            given[i] = types[i] == int.class ? (Object) (int) args[i] : (Object) args[i];
        }
        try {
            return ((Number) m.invoke(on, given)).longValue();
        } catch (ReflectiveOperationException e) {
            throw new IllegalStateException(m.getName(), e);
        }
    }
}
