import java.util.ArrayList;
import java.util.HashMap;
import java.util.List;
import java.util.Map;

/**
 * The document once more, in its own words and as slowly as it likes: chains and winders are lists
 * that are copied, things are objects, and a text is told to be good or not sign by sign by what is
 * still due behind it. ModelTest compares the class with it.
 */
final class Model {
    static final long NO = Long.MIN_VALUE;

    // ---- E

    static final class E {
        char sign;
        int number;
        List<E> parts = new ArrayList<>();

        int count() {
            int n = 1;
            for (E e : parts) {
                n += e.count();
            }
            return n;
        }

        int deep() {
            int n = 0;
            for (E e : parts) {
                n = Math.max(n, e.deep());
            }
            return n + 1;
        }

        int catches() {
            int n = sign == '@' ? 1 : 0;
            for (E e : parts) {
                n += e.catches();
            }
            return n;
        }

        int lastCalls() {
            int n = "FGH".indexOf(sign) >= 0 ? 1 : 0;
            if (sign == '?') {
                n += parts.get(1).lastCalls() + parts.get(2).lastCalls();
            } else if (sign == '=') {
                n += parts.get(1).lastCalls();
            } else if (sign == '[') {
                n += parts.get(parts.size() - 1).lastCalls();
            } else if (sign == '@') {
                n += parts.get(0).lastCalls();
            }
            return n;
        }
    }

    /** The FAULT of a text, or -1: by a row of what is due, the next last. */
    static int fault(String text) {
        StringBuilder due = new StringBuilder("E");
        int within = 0;
        for (int i = 0; i < text.length(); i++) {
            char c = text.charAt(i);
            // What may be left out is left out, if c is not of it.
            while (due.length() > 0) {
                char next = due.charAt(due.length() - 1);
                if ((next == 'D') && !Character.isDigit(c)) {
                    due.setLength(due.length() - 1);
                } else {
                    break;
                }
            }
            if (due.length() == 0) {
                return i;
            }
            char next = due.charAt(due.length() - 1);
            due.setLength(due.length() - 1);
            if (next == 'D') {
                continue;
            }
            if (next == 'x') {
                if (c < 'a' || c > 'd') {
                    return i;
                }
                continue;
            }
            if (next >= '1' && next <= '5') {
                // Behind an E of a list, of which that many have come.
                if (c == ']') {
                    within--;
                } else if (c == ',' && next < '5') {
                    due.append((char) (next + 1)).append('E');
                } else {
                    return i;
                }
                continue;
            }
            if (next == ',' || next == '(' || next == ')') {
                if (c != next) {
                    return i;
                }
                if (c == ')') {
                    within--;
                }
                continue;
            }
            if (Character.isDigit(c)) {
                due.append("DD");
                continue;
            }
            if (c >= 'a' && c <= 'd') {
                continue;
            }
            if (within == 7) {
                return i;
            }
            within++;
            switch (c) {
                case '+': case '-': case '*': case '<': due.append(")E,E("); break;
                case '?': case '%': due.append(")E,E,E("); break;
                case '=': due.append(")E,E(x"); break;
                case '[': due.append("1E"); break;
                case 'F': case 'G': case 'H': case '!': due.append(")E("); break;
                case '@': case '^': case ':': due.append(")E(x"); break;
                default: return i;
            }
        }
        while (due.length() > 0 && due.charAt(due.length() - 1) == 'D') {
            due.setLength(due.length() - 1);
        }
        return due.length() == 0 ? -1 : text.length();
    }

    /** Of a text without a FAULT. */
    static E read(String text, int[] place) {
        E e = new E();
        e.sign = text.charAt(place[0]);
        if (Character.isDigit(e.sign)) {
            e.sign = '0';
            while (place[0] < text.length() && Character.isDigit(text.charAt(place[0]))) {
                e.number = e.number * 10 + text.charAt(place[0]++) - '0';
            }
            return e;
        }
        place[0]++;
        if (e.sign >= 'a' && e.sign <= 'd') {
            e.number = e.sign - 'a';
            e.sign = 'a';
            return e;
        }
        if ("=@^:".indexOf(e.sign) >= 0) {
            e.number = text.charAt(place[0]++) - 'a';
        }
        if (e.sign != '[') {
            place[0]++;
        }
        do {
            e.parts.add(read(text, place));
        } while (text.charAt(place[0]++) == ',');
        return e;
    }

    // ---- the machine

    static final class Escape {
        List<Frame> chain;
        List<Winder> winders;
    }

    static final class Winder {
        E before, after;
        Map<Integer, Object> scope;
    }

    static final class Frame {
        int number;
        String of;
        E e;
        Map<Integer, Object> scope;
        Object kept;
        Escape escape;
        Winder winder;
    }

    static final class World {
        int[] values = new int[4];
        E[] functions = new E[3];
        int[] lineOf = {-5, -5, -5};

        World copy() {
            World w = new World();
            w.values = values.clone();
            w.functions = functions.clone();
            w.lineOf = lineOf.clone();
            return w;
        }
    }

    static final class Run {
        int status = -9, steps, deepest;
        Object result;
        List<Integer> out = new ArrayList<>();
        boolean gives;
        E e;
        Object v;
        Map<Integer, Object> scope;
        List<Frame> chain = new ArrayList<>();
        List<Winder> winders = new ArrayList<>();

        static Run of(E e) {
            Run r = new Run();
            r.status = -5;
            r.e = e;
            r.scope = new HashMap<>();
            return r;
        }

        Run copy() {
            Run r = new Run();
            r.status = status;
            r.steps = steps;
            r.deepest = deepest;
            r.result = result;
            r.out = new ArrayList<>(out);
            r.gives = gives;
            r.e = e;
            r.v = v;
            r.scope = scope;
            r.chain = new ArrayList<>(chain);
            r.winders = new ArrayList<>(winders);
            return r;
        }

        void step(World w) {
            steps++;
            if (gives) {
                giveStep(w);
            } else {
                workStep(w);
            }
            if (status == -5 && steps == 300) {
                status = 8;
            }
        }

        Frame comes(int number, String of, E e, Map<Integer, Object> scope) {
            Frame f = new Frame();
            f.number = number;
            f.of = of;
            f.e = e;
            f.scope = scope;
            if (chain.size() == 40) {
                status = 4;
            } else {
                chain.add(f);
                deepest = Math.max(deepest, chain.size());
            }
            return f;
        }

        void at(E e, Map<Integer, Object> scope) {
            this.e = e;
            this.scope = scope;
            gives = false;
        }

        void give(Object v) {
            this.v = v;
            gives = true;
        }

        static Map<Integer, Object> binding(Map<Integer, Object> scope, int x, Object v) {
            Map<Integer, Object> m = new HashMap<>(scope);
            m.put(x, v);
            return m;
        }

        Object letter(World w, int x) {
            return scope.containsKey(x) ? scope.get(x) : (Object) w.values[x];
        }

        void workStep(World w) {
            E e = this.e;
            switch (e.sign) {
                case '0': give(e.number); return;
                case 'a': give(letter(w, e.number)); return;
                case '@': {
                    Escape k = new Escape();
                    k.chain = new ArrayList<>(chain);
                    k.winders = new ArrayList<>(winders);
                    at(e.parts.get(0), binding(scope, e.number, k));
                    return;
                }
                default:
            }
            if (e.sign == '[' && e.parts.size() == 1) {
                at(e.parts.get(0), scope);
                return;
            }
            Escape aim = null;
            if (e.sign == '^') {
                Object x = letter(w, e.number);
                if (!(x instanceof Escape)) {
                    status = 2;
                    return;
                }
                aim = (Escape) x;
            }
            int number;
            switch (e.sign) {
                case '?': number = 1; break;
                case '=': number = 2; break;
                case '[': number = 3; break;
                case 'F': case 'G': case 'H': number = 4; break;
                case '^': number = 5; break;
                case '!': number = 6; break;
                case ':': number = 7; break;
                case '%': number = 8; break;
                default: number = 0;
            }
            Frame f = comes(number, e.sign + "1", e, scope);
            f.escape = aim;
            at(e.parts.get(0), scope);
        }

        void giveStep(World w) {
            if (chain.isEmpty()) {
                status = 0;
                result = v;
                return;
            }
            Frame f = chain.remove(chain.size() - 1);
            switch (f.of) {
                case "?1":
                    if (!(v instanceof Integer)) {
                        status = 2;
                    } else {
                        at(f.e.parts.get((Integer) v != 0 ? 1 : 2), f.scope);
                    }
                    return;
                case "=1": at(f.e.parts.get(1), binding(f.scope, f.e.number, v)); return;
                case "[1": {
                    E others = new E();
                    others.sign = '[';
                    others.parts = f.e.parts.subList(1, f.e.parts.size());
                    at(others, f.scope);
                    return;
                }
                case "F1": case "G1": case "H1": {
                    E body = w.functions[f.e.sign - 'F'];
                    if (body == null) {
                        status = 3;
                    } else {
                        at(body, binding(new HashMap<>(), 0, v));
                    }
                    return;
                }
                case "!1": case ":1":
                    if (!(v instanceof Integer)) {
                        status = 2;
                    } else if (f.e.sign == ':') {
                        w.values[f.e.number] = (Integer) v;
                    } else if (out.size() < 40) {
                        out.add((Integer) v);
                    }
                    return;
                case "%1": {
                    Winder winder = new Winder();
                    winder.before = f.e.parts.get(0);
                    winder.after = f.e.parts.get(2);
                    winder.scope = f.scope;
                    winders.add(winder);
                    comes(8, "%2", f.e, f.scope);
                    at(f.e.parts.get(1), f.scope);
                    return;
                }
                case "%2":
                    winders.remove(winders.size() - 1);
                    comes(8, "%3", f.e, f.scope).kept = v;
                    at(f.e.parts.get(2), f.scope);
                    return;
                case "%3": give(f.kept); return;
                case "^1": go(f.escape, v); return;
                case "on": go(f.escape, f.kept); return;
                case "in": winders.add(f.winder); go(f.escape, f.kept); return;
                case "op2": op(f); return;
                default:
                    comes(0, "op2", f.e, f.scope).kept = v;
                    at(f.e.parts.get(1), f.scope);
            }
        }

        void op(Frame f) {
            if (!(f.kept instanceof Integer) || !(v instanceof Integer)) {
                status = 2;
                return;
            }
            int l = (Integer) f.kept, r = (Integer) v;
            switch (f.e.sign) {
                case '+': give(l + r); break;
                case '-': give(l - r); break;
                case '*': give(l * r); break;
                default: give(l < r ? 1 : 0);
            }
        }

        void go(Escape k, Object v) {
            boolean on = winders.size() <= k.winders.size();
            for (int i = 0; on && i < winders.size(); i++) {
                on = winders.get(i) == k.winders.get(i);
            }
            if (on && winders.size() == k.winders.size()) {
                chain = new ArrayList<>(k.chain);
                give(v);
                return;
            }
            chain = new ArrayList<>();
            Winder winder = on ? k.winders.get(winders.size()) : winders.remove(winders.size() - 1);
            Frame f = comes(on ? 10 : 9, on ? "in" : "on", null, null);
            f.kept = v;
            f.escape = k;
            f.winder = winder;
            at(on ? winder.before : winder.after, winder.scope);
        }

        long answer(int what) {
            switch (what) {
                case 0: return status;
                case 1: return status == 0 && result instanceof Integer ? (Integer) result : NO;
                case 2: return steps;
                case 3: return deepest;
                case 4: return out.size();
                default: return what >= 40 && what < 40 + out.size() ? out.get(what - 40) : NO;
            }
        }
    }

    // ---- the face

    private final StringBuilder text = new StringBuilder();
    private final List<E> lines = new ArrayList<>();
    private World world = new World();
    private Run run = new Run();
    private List<int[]> seen = new ArrayList<>(), plan = new ArrayList<>(), book = new ArrayList<>();
    private World imageWorld;
    private Run imageRun;
    private List<int[]> imageSeen, imagePlan, imageBook;
    private final Object[] tapes = new Object[6];

    private boolean noLine(int line) {
        return line < 0 || line >= lines.size();
    }

    private static boolean not(int n, int below) {
        return n < 0 || n >= below;
    }

    int feed(int sign) {
        if (not(sign, 128)) {
            return -2;
        }
        if (text.length() == 100) {
            return -4;
        }
        return text.append((char) sign).length();
    }

    int line() {
        if (lines.size() == 8) {
            return -4;
        }
        String t = text.toString();
        text.setLength(0);
        int fault = fault(t);
        if (fault >= 0) {
            return -10 - fault;
        }
        lines.add(read(t, new int[1]));
        return lines.size() - 1;
    }

    int of(int line, int what) {
        if (noLine(line) || not(what, 4)) {
            return -1;
        }
        E e = lines.get(line);
        return what == 0 ? e.count() : what == 1 ? e.deep() : what == 2 ? e.catches() : e.lastCalls();
    }

    int define(int function, int line) {
        if (not(function, 3) || line != -1 && noLine(line)) {
            return -1;
        }
        int had = world.lineOf[function];
        world.lineOf[function] = line == -1 ? -5 : line;
        world.functions[function] = line == -1 ? null : lines.get(line);
        return had;
    }

    long value(int name, int v) {
        if (not(name, 4)) {
            return NO;
        }
        int was = world.values[name];
        world.values[name] = v;
        return was;
    }

    int begin(int line) {
        if (noLine(line)) {
            return -1;
        }
        run = Run.of(lines.get(line));
        return lines.get(line).count();
    }

    int step(int n) {
        if (not(n, 301)) {
            return -2;
        }
        if (run.status != -5) {
            return -3;
        }
        int made = 0;
        while (made < n && run.status == -5) {
            run.step(world);
            made++;
        }
        return made;
    }

    int run(int line) {
        if (noLine(line)) {
            return -1;
        }
        run = ran(line, world);
        return run.status;
    }

    private Run ran(int line, World w) {
        Run r = Run.of(lines.get(line));
        while (r.status == -5) {
            r.step(w);
        }
        return r;
    }

    long told(int what) {
        if (what >= 5 && what <= 8) {
            if (run.status != -5) {
                return NO;
            }
            int n = run.chain.size();
            return what == 5 ? n : what == 6 ? run.winders.size() : what == 7 ? (run.gives ? 1 : 0)
                    : n == 0 ? -5 : run.chain.get(n - 1).number;
        }
        if (what >= 10 && what <= 13) {
            return world.values[what - 10];
        }
        if (what >= 20 && what <= 22) {
            return world.lineOf[what - 20];
        }
        return run.answer(what);
    }

    long on(int line, int what) {
        return noLine(line) ? NO : ran(line, world.copy()).answer(what);
    }

    int see(int place, int v) {
        if (place == -1) {
            seen.clear();
            return 0;
        }
        if (not(place, 40)) {
            return -2;
        }
        return added(seen, 5, place, v);
    }

    private static int added(List<int[]> rows, int most, int a, int b) {
        if (rows.size() == most) {
            return -4;
        }
        rows.add(new int[] {a, b});
        return rows.size();
    }

    private Run ranWith(int line, int name, int v) {
        World w = world.copy();
        w.values[name] = v;
        return ran(line, w);
    }

    int fits(int line, int name, int what) {
        if (noLine(line) || not(name, 4) || not(what, 2)) {
            return -1;
        }
        List<Integer> fitting = new ArrayList<>();
        for (int v = 0; v < 20; v++) {
            Run r = ranWith(line, name, v);
            boolean fit = true;
            for (int[] row : seen) {
                fit &= row[0] < r.out.size() && r.out.get(row[0]) == row[1];
            }
            if (fit) {
                fitting.add(v);
            }
        }
        return what == 0 ? fitting.size() : fitting.isEmpty() ? -5 : fitting.get(0);
    }

    int alike(int line, int other) {
        if (noLine(line) || noLine(other)) {
            return -1;
        }
        Run a = ran(line, world.copy()), b = ran(other, world.copy());
        if (a.status != b.status || !a.out.equals(b.out)) {
            return 0;
        }
        if (a.status != 0) {
            return 1;
        }
        boolean both = a.result instanceof Escape && b.result instanceof Escape;
        return both || a.result.equals(b.result) ? 1 : 0;
    }

    private static long lowest(long above, long below, int part) {
        long d = java.math.BigInteger.valueOf(above).gcd(java.math.BigInteger.valueOf(below)).longValue();
        return part == 0 ? above / d : below / d;
    }

    long odds(int line, int name, int part) {
        if (noLine(line) || not(name, 4) || not(part, 2)) {
            return NO;
        }
        int good = 0;
        for (int v = 0; v < 10; v++) {
            Run r = ranWith(line, name, v);
            if (r.status == 0 && r.result instanceof Integer && (Integer) r.result != 0) {
                good++;
            }
        }
        return lowest(good, 10, part);
    }

    long mean(int line, int part) {
        if (noLine(line) || not(part, 2)) {
            return NO;
        }
        Run r = ran(line, world.copy());
        if (r.out.isEmpty()) {
            return NO;
        }
        long sum = 0;
        for (int v : r.out) {
            sum += v;
        }
        return lowest(sum, r.out.size(), part);
    }

    int plan(int what, int n) {
        if (what == -1) {
            plan.clear();
            return 0;
        }
        if (not(what, 3) || what == 0 && noLine(n) || what == 1 && not(n, 4) || what == 2 && not(n, 3)) {
            return -1;
        }
        return added(plan, 10, what, n);
    }

    long ends(int name) {
        if (not(name, 4)) {
            return NO;
        }
        World w = world.copy();
        for (int[] row : plan) {
            if (row[0] == 0) {
                ran(row[1], w);
            } else if (row[0] == 1) {
                w.values[row[1]] = 0;
            } else {
                w.functions[row[1]] = null;
            }
        }
        return w.values[name];
    }

    int book(int name, int v) {
        if (name == -1) {
            book.clear();
            return 0;
        }
        return not(name, 4) ? -1 : added(book, 8, name, v);
    }

    int looked() {
        for (int i = 0; i < book.size(); i++) {
            if (world.values[book.get(i)[0]] != book.get(i)[1]) {
                return i;
            }
        }
        return -5;
    }

    int judge(int tape, int i) {
        if (not(tape, 6)) {
            return -1;
        }
        int k = 0;
        try {
            int[] row = (int[]) tapes[tape];
            for (; k < run.out.size(); k++) {
                if (row[i + k] != run.out.get(k)) {
                    return k;
                }
            }
            return -5;
        } catch (ClassCastException e) {
            return -12;
        } catch (NullPointerException | ArrayIndexOutOfBoundsException e) {
            return 100 + k;
        }
    }

    int image() {
        imageWorld = world.copy();
        imageRun = run.copy();
        imageSeen = new ArrayList<>(seen);
        imagePlan = new ArrayList<>(plan);
        imageBook = new ArrayList<>(book);
        return lines.size();
    }

    int undo() {
        if (imageRun == null) {
            return -3;
        }
        world = imageWorld.copy();
        run = imageRun.copy();
        seen = new ArrayList<>(imageSeen);
        plan = new ArrayList<>(imagePlan);
        book = new ArrayList<>(imageBook);
        return lines.size();
    }

    int count(int what) {
        switch (what) {
            case 0: return lines.size();
            case 1: return seen.size();
            case 2: return plan.size();
            case 3: return book.size();
            case 4: return text.length();
            default: return -2;
        }
    }

    int tape(int tape, int sort, int n) {
        if (not(tape, 6)) {
            return -1;
        }
        if (sort < -1 || sort > 4 || sort >= 0 && n > 60) {
            return -2;
        }
        if (sort >= 0 && n < 0) {
            return -14;
        }
        switch (sort) {
            case 0: tapes[tape] = new byte[n]; break;
            case 1: tapes[tape] = new short[n]; break;
            case 2: tapes[tape] = new int[n]; break;
            case 3: tapes[tape] = new long[n]; break;
            case 4: tapes[tape] = new boolean[n]; break;
            default: tapes[tape] = null;
        }
        return 1;
    }

    int item(int tape, int i, long v) {
        if (not(tape, 6)) {
            return -1;
        }
        try {
            Object row = tapes[tape];
            if (row == null) {
                return -11;
            } else if (row instanceof byte[]) {
                ((byte[]) row)[i] = (byte) v;
            } else if (row instanceof short[]) {
                ((short[]) row)[i] = (short) v;
            } else if (row instanceof int[]) {
                ((int[]) row)[i] = (int) v;
            } else if (row instanceof long[]) {
                ((long[]) row)[i] = v;
            } else {
                ((boolean[]) row)[i] = v != 0;
            }
            return 1;
        } catch (ArrayIndexOutOfBoundsException e) {
            return -13;
        }
    }

    long read(int tape, int i) {
        if (not(tape, 6) || tapes[tape] == null || not(i, java.lang.reflect.Array.getLength(tapes[tape]))) {
            return NO;
        }
        Object item = java.lang.reflect.Array.get(tapes[tape], i);
        return item instanceof Boolean ? ((Boolean) item ? 1 : 0) : ((Number) item).longValue();
    }

    int shift(int tape, int i, int other, int j, int n) {
        if (not(tape, 6) || not(other, 6)) {
            return -1;
        }
        try {
            System.arraycopy(tapes[tape], i, tapes[other], j, n);
            return n;
        } catch (NullPointerException e) {
            return -11;
        } catch (ArrayStoreException e) {
            return -12;
        } catch (ArrayIndexOutOfBoundsException e) {
            return -13;
        }
    }
}
