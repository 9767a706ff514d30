/** Long runs of calls, drawn from a seeded row of numbers, on the class and on the Model. */
public final class ModelTest {
    private static long seed;
    private static EscapeFrames x;
    private static Model m;
    private static final StringBuilder log = new StringBuilder();
    private static final Due due = new Due();
    /** So many calls one call() makes at most: of steps, each looked at. */
    private static final int DEAREST = 125;
    private static final long[] statuses = new long[10];
    private static long inside;
    private static int calls;

    private static int draw(int n) {
        seed = seed * 6364136223846793005L + 1442695040888963407L;
        return (int) ((seed >>> 33) % n);
    }

    private static int pick(int... of) {
        return of[draw(of.length)];
    }

    private static char name() {
        return (char) ('a' + draw(4));
    }

    /** An E, with escapes under @, winders and calls more often than chance would have them. */
    private static String e(int within) {
        int kind = within >= 7 ? draw(2) : draw(within < 2 ? 12 : 15);
        if (within < 2) {
            kind += 3;
        }
        int w = within + 1;
        switch (kind) {
            case 0: return "" + draw(pick(3, 20, 1000));
            case 1: case 2: return "" + name();
            case 3: return "" + "+-*<".charAt(draw(4)) + "(" + e(w) + "," + e(w) + ")";
            case 4: return "?(" + e(w) + "," + e(w) + "," + e(w) + ")";
            case 5: return "=" + name() + "(" + e(w) + "," + e(w) + ")";
            case 6: case 7: {
                StringBuilder s = new StringBuilder("[").append(e(w));
                for (int n = draw(3); n > 0; n--) {
                    s.append(',').append(e(w));
                }
                return s.append("]").toString();
            }
            case 8: return "FGH".charAt(draw(3)) + "(" + e(w) + ")";
            case 9: case 10: return "@" + name() + "(" + e(w) + ")";
            case 11: case 12: return "%(" + e(w) + "," + e(w) + "," + e(w) + ")";
            case 13: return "!(" + e(w) + ")";
            case 14: return draw(3) == 0 ? ":" + name() + "(" + e(w) + ")" : "^" + name() + "(" + e(w) + ")";
            default: return "^" + name() + "(" + e(w) + ")";
        }
    }

    private static final String[] FORMS = {
        // Escapes that leave their @ and are gone to again from without.
        "=a(@b(b),[!(#),?(<(c,5),^a(+(:c(+(c,1)),0)),7)])",
        "=d(@b(%(!(1),@a(a),!(2))),?(<(:c(+(c,1)),#),^d(d),9))",
        "=a(%(!(1),%(!(2),@b(b),!(3)),!(4)),?(<(:c(+(c,1)),#),^a(a),c))",
        "@a(%(!(1),@b(%(!(2),^a(@c(^b(c))),!(3))),!(4)))",
        "=a(%(1,@b(b),!(#)),%(!(6),?(<(:d(+(d,1)),3),^a(a),d),!(8)))",
        "?(a,F(-(a,1)),#)", "?(a,+(1,F(-(a,1))),#)", "[!(a),F(+(a,1))]", "*(a,F(+(a,#)))", "+(1,F(a))", "+(0,-(1,F(2)))",
        "%(!(a),?(<(a,#),G(+(a,1)),a),!(-(0,a)))", "@d(%(G(1),^d(#),H(2)))",
        "=b(@c(c),?(<(:a(+(a,1)),#),^b(b),!(a)))", "^a(#)", "[^c(1),2]", "@c(=a(c,F(a)))",
        "@b(%(^b(1),2,!(#)))", "@b(%(1,2,[!(#),^b(4)]))", "=a(@b(b),%([!(#),?(<(:c(+(c,1)),4),^a(a),0)],1,!(5)))",
    };

    private static String form() {
        StringBuilder s = new StringBuilder();
        for (char c : FORMS[draw(FORMS.length)].toCharArray()) {
            s.append(c == '#' ? "" + draw(30) : c == 'F' && draw(3) == 0 ? "" + (char) ('F' + draw(3)) : "" + c);
        }
        return s.toString();
    }

    private static String text() {
        String t = draw(4) == 0 ? e(5 + draw(3)) : draw(2) == 0 ? form() : e(0);
        for (int tries = 0; t.length() > 100 && tries < 40; tries++) {
            t = e(0);
        }
        if (draw(8) == 0 && !t.isEmpty()) {
            int at = draw(t.length());
            String signs = "()[],+-*<?=FGH@^%!:abcde0123456789 \177";
            char c = signs.charAt(draw(signs.length()));
            switch (draw(4)) {
                case 0: return t.substring(0, at);
                case 1: return t.substring(0, at) + c + t.substring(at + 1);
                case 2: return t.substring(0, at) + c + t.substring(at);
                default: return t.substring(0, at) + t.substring(at + 1);
            }
        }
        return t;
    }

    private static void same(String call, long want, long got) {
        calls++;
        if (want != got) {
            System.out.println(log);
        } else if (log.length() < 20000) {
            log.append(call).append(" -> ").append(want).append('\n');
        }
        due.is(call, want, got);
    }

    private static int edge() {
        return pick(-2, -1, 0, 1, 2, 3, 4, 5, 7, 8, 9, Integer.MIN_VALUE, Integer.MAX_VALUE);
    }

    private static int aLine() {
        return draw(12) == 0 ? edge() : draw(8);
    }

    private static int aName() {
        return draw(12) == 0 ? edge() : draw(4);
    }

    private static int aNumber() {
        return draw(12) == 0 ? pick(Integer.MIN_VALUE, Integer.MAX_VALUE) : draw(24) - 3;
    }

    private static void newLine() {
        String t = text();
        for (int i = 0; i < t.length(); i++) {
            same("feed(" + (int) t.charAt(i) + ")", m.feed(t.charAt(i)), x.feed(t.charAt(i)));
        }
        int l = m.line();
        same("line() of " + t, l, x.line());
        for (int what = -1; what < 5; what++) {
            same("of(" + l + ", " + what + ")", m.of(l, what), x.of(l, what));
        }
    }

    private static void told(int what) {
        same("told(" + what + ")", m.told(what), x.told(what));
    }

    private static void lookAround() {
        for (int what = 0; what < 9; what++) {
            told(what);
        }
        told(9 + draw(16));
        told(39 + draw((int) m.told(4) + 2));
        told(39 + (int) m.told(4));
        told(draw(2) == 0 ? draw(90) - 3 : edge());
        long status = m.told(0);
        if (status >= 0) {
            statuses[(int) status]++;
        }
        if (m.told(8) >= 9) {
            inside++;
        }
    }

    private static void call() {
        int a = aLine(), b = aName(), v = aNumber(), w = draw(6) == 0 ? edge() : draw(2);
        switch (draw(30)) {
            case 0: case 1: case 2: newLine(); break;
            case 3: v = pick(-1, 128, 0, 127, 40); same("feed(" + v + ")", m.feed(v), x.feed(v)); break;
            case 4: case 5: {
                int f = draw(9) == 0 ? edge() : draw(3);
                a = draw(6) == 0 ? -1 : a;
                same("define(" + f + ", " + a + ")", m.define(f, a), x.define(f, a));
                break;
            }
            case 6: same("value(" + b + ", " + v + ")", m.value(b, v), x.value(b, v)); break;
            case 7: case 8: same("begin(" + a + ")", m.begin(a), x.begin(a)); break;
            case 9: case 10: case 11: case 12: {
                int n = draw(9) == 0 ? pick(-1, 0, 299, 300, 301) : draw(pick(3, 5, 30));
                for (int times = n < 5 ? 8 : 1; times > 0; times--) {
                    same("step(" + n + ")", m.step(n), x.step(n));
                    lookAround();
                }
                break;
            }
            case 13: same("run(" + a + ")", m.run(a), x.run(a)); lookAround(); break;
            case 14: onTheWay(a); break;
            case 15:
                for (int what : new int[] {-1, 0, 1, 2, 3, 4, 5, 10, 20, 39, 40, 41, 50, 79, 80}) {
                    same("on(" + a + ", " + what + ")", m.on(a, what), x.on(a, what));
                }
                break;
            case 16: {
                int p = draw(4) == 0 ? pick(-2, -1, 39, 40) : draw(3);
                same("see(" + p + ", " + v + ")", m.see(p, v), x.see(p, v));
                break;
            }
            case 17: same("fits(" + a + ", " + b + ", " + w + ")", m.fits(a, b, w), x.fits(a, b, w)); break;
            case 18: {
                int o = aLine();
                same("alike(" + a + ", " + o + ")", m.alike(a, o), x.alike(a, o));
                break;
            }
            case 19: same("odds(" + a + ", " + b + ", " + w + ")", m.odds(a, b, w), x.odds(a, b, w)); break;
            case 20: same("mean(" + a + ", " + w + ")", m.mean(a, w), x.mean(a, w)); break;
            case 21: {
                int what = draw(8) == 0 ? edge() : draw(3);
                same("plan(" + what + ", " + a + ")", m.plan(what, a), x.plan(what, a));
                break;
            }
            case 22: same("ends(" + b + ")", m.ends(b), x.ends(b)); break;
            case 23: same("book(" + b + ", " + v + ")", m.book(b, v), x.book(b, v)); break;
            case 24: same("looked()", m.looked(), x.looked()); break;
            case 25: same("image()", m.image(), x.image()); break;
            case 26: same("undo()", m.undo(), x.undo()); lookAround(); break;
            case 27: same("count(" + w + ")", m.count(w), x.count(w)); break;
            default: tapeCall();
        }
    }

    /** A RUN of a LINE, looked at in short behind a few steps each. */
    private static void onTheWay(int line) {
        same("begin(" + line + ")", m.begin(line), x.begin(line));
        int pace = 1 + draw(4);
        for (int times = 0; times < 20 && m.told(0) == -5; times++) {
            same("step(" + pace + ")", m.step(pace), x.step(pace));
            for (int what = 5; what < 9; what++) {
                told(what);
            }
            if (m.told(8) >= 9) {
                inside++;
            }
        }
        lookAround();
    }

    private static void tapeCall() {
        int t = draw(12) == 0 ? edge() : draw(6), o = draw(12) == 0 ? edge() : draw(6);
        int i = draw(9) == 0 ? edge() : draw(5), j = draw(9) == 0 ? edge() : draw(5);
        int n = draw(9) == 0 ? edge() : draw(4);
        switch (draw(6)) {
            case 0: {
                int sort = draw(9) == 0 ? edge() : pick(0, 1, 2, 2, 3, 4, -1);
                int size = draw(6) == 0 ? pick(-1, 0, 60, 61, Integer.MIN_VALUE, Integer.MAX_VALUE) : draw(9);
                same("tape(" + t + ", " + sort + ", " + size + ")", m.tape(t, sort, size), x.tape(t, sort, size));
                break;
            }
            case 1: {
                long v = draw(3) == 0 ? seed : draw(5);
                same("item(" + t + ", " + i + ", " + v + ")", m.item(t, i, v), x.item(t, i, v));
                break;
            }
            case 2: same("read(" + t + ", " + i + ")", m.read(t, i), x.read(t, i)); break;
            case 3: same("judge(" + t + ", " + i + ")", m.judge(t, i), x.judge(t, i)); break;
            case 4: judgeOut(); break;
            default:
                same("shift(" + t + ", " + i + ", " + o + ", " + j + ", " + n + ")",
                        m.shift(t, i, o, j, n), x.shift(t, i, o, j, n));
        }
    }

    /** A row that is told as OUT is, at first. */
    private static void judgeOut() {
        int size = (int) Math.min(60, Math.max(0, m.told(4) + draw(4) - 1)), from = draw(2);
        same("tape(2, 2, " + size + ")", m.tape(2, 2, size), x.tape(2, 2, size));
        for (int k = 0; k < m.told(4); k++) {
            long v = m.told(40 + k) + (draw(20) == 0 ? 1 : 0);
            same("item(2, " + (from + k) + ", " + v + ")", m.item(2, from + k, v), x.item(2, from + k, v));
        }
        same("judge(2, " + from + ")", m.judge(2, from), x.judge(2, from));
    }

    public static void main(String[] args) {
        int runs = args.length > 0 ? Integer.parseInt(args[0]) : 20000;
        int most = 0;
        for (int run = 0; run < runs; run++) {
            seed = run * 7919L + 17;
            draw(2);
            log.setLength(0);
            x = new EscapeFrames();
            m = new Model();
            calls = 0;
            for (int i = draw(5); i >= 0; i--) {
                newLine();
            }
            for (int f = draw(4) - 1; f >= 0; f--) {
                int line = draw(5);
                same("define(" + f + ", " + line + ")", m.define(f, line), x.define(f, line));
            }
            while (calls <= Play.MOST_CALLS - DEAREST) {
                call();
            }
            most = Math.max(most, calls);
        }
        due.is("calls beyond what is promised", 0, Math.max(0, most - Play.MOST_CALLS));
        for (int s : new int[] {0, 2, 3, 4, 8}) {
            due.is("status " + s + " was looked at often", 1, statuses[s] > runs / 60 ? 1 : 0);
        }
        due.is("ways to an escape were looked at often", 1, inside > runs / 60 ? 1 : 0);
        System.out.println("statuses " + java.util.Arrays.toString(statuses) + ", on the way " + inside);
        due.end("ModelTest");
    }
}
