/** For each promise of the document: ordinary inputs, its edges, wrong inputs. Told by hand. */
public final class PromisesTest {
    private static final long NO = Long.MIN_VALUE;
    private static final int NONE = -1, BAD = -2, STATE = -3, FULL = -4;
    private static final int NOTHING = -11, CAST = -12, PLACE = -13, SIZE = -14;
    private static final int MAX = Integer.MAX_VALUE, MIN = Integer.MIN_VALUE;

    // Counts down from what it is given: 10 steps a round, 3 ahead of it, 5 at its end.
    private static final String DOWN = "?(a,F(-(a,1)),0)";
    // OUT is 1 2 4 5, RESULT 9, after 25 steps, with 4 frames at most.
    private static final String LEFT = "%(!(1),@d(%(!(2),[^d(9),!(3)],!(4))),!(5))";

    private static final Due due = new Due();

    private static void out(String call, EscapeFrames x, long... want) {
        due.is(call + ": told(4)", want.length, x.told(4));
        for (int k = 0; k < want.length; k++) {
            due.is(call + ": told(" + (40 + k) + ")", want[k], x.told(40 + k));
        }
        due.is(call + ": no more", NO, x.told(40 + want.length));
    }

    /** The row of told(0 .. 3): STATUS, RESULT, STEPS, DEEPEST. */
    private static void stood(String call, EscapeFrames x, long status, long result, long steps, long deepest) {
        due.is(call + ": STATUS", status, x.told(0));
        due.is(call + ": RESULT", result, x.told(1));
        due.is(call + ": STEPS", steps, x.told(2));
        due.is(call + ": DEEPEST", deepest, x.told(3));
    }

    /** The row of told(5 .. 8): FRAMES, WINDERS, at work or gives, the latest FRAME. */
    private static void at(String call, EscapeFrames x, long frames, long winders, long gives, long latest) {
        due.is(call + ": FRAMES", frames, x.told(5));
        due.is(call + ": WINDERS", winders, x.told(6));
        due.is(call + ": gives", gives, x.told(7));
        due.is(call + ": the latest", latest, x.told(8));
    }

    private static EscapeFrames ran(String text) {
        EscapeFrames x = Due.with(text);
        x.run(0);
        return x;
    }

    private static void promise1() {
        EscapeFrames x = new EscapeFrames();
        for (int what = 0; what < 5; what++) {
            due.is("new: count(" + what + ")", 0, x.count(what));
        }
        for (int name = 0; name < 4; name++) {
            due.is("new: VALUE", 0, x.told(10 + name));
        }
        for (int f = 0; f < 3; f++) {
            due.is("new: FUNCTION", -5, x.told(20 + f));
        }
        stood("new", x, -9, NO, 0, 0);
        at("new", x, NO, NO, NO, NO);
        out("new", x);
        due.is("new: run(0)", NONE, x.run(0));
        due.is("new: undo()", STATE, x.undo());
        due.is("new: read(0, 0)", NO, x.read(0, 0));
        due.is("new: looked()", -5, x.looked());
    }

    private static void promise2() {
        EscapeFrames x = new EscapeFrames();
        due.is("feed(0)", 1, x.feed(0));
        due.is("feed(127)", 2, x.feed(127));
        due.is("feed(-1)", BAD, x.feed(-1));
        due.is("feed(128)", BAD, x.feed(128));
        due.is("feed(MAX)", BAD, x.feed(MAX));
        due.is("count(4)", 2, x.count(4));
        for (int n = 3; n <= 100; n++) {
            due.is("feed, the " + n + "th", n, x.feed('1'));
        }
        due.is("feed, the 101st", FULL, x.feed('1'));
        due.is("feed(-1), the 101st", BAD, x.feed(-1));
        due.is("count(4) after", 100, x.count(4));
    }

    private static void fault(int place, String text) {
        EscapeFrames x = new EscapeFrames();
        due.is("line() of " + text, -10 - place, Due.line(x, text));
        due.is("no LINE of " + text, 0, x.count(0));
        due.is("THE TEXT behind " + text, 0, x.count(4));
    }

    private static void good(String text) {
        due.is("line() of " + text, 0, Due.line(new EscapeFrames(), text));
    }

    private static void promise3() {
        String[] ends = {"", "+", "+(", "+(1", "+(1,", "+(1,2", "=", "=a", "=a(1,", "?(1,2,", "[", "[1", "[1,", "F", "F(",
                "@a", "@a(1", "^", "^b(", "%(1,2,", "!(", ":", ":d(7"};
        for (String text : ends) {
            fault(text.length(), text);
        }
        fault(0, ")");
        fault(0, " 1");
        fault(1, "1 ");
        fault(3, "1234");
        fault(5, "!(1234)");
        fault(1, "ab");
        fault(0, "e");
        fault(0, "I(1)");
        fault(1, "=e(1,2)");
        fault(1, "^(1)");
        fault(3, "+(1)");
        fault(5, "+(1,2,3)");
        fault(5, "%(1,2)");
        fault(3, "!(1,2)");
        fault(4, "@a(1,2)");
        fault(1, "[]");
        fault(2, "[1)");
        fault(10, "[1,2,3,4,5,6]");
        fault(4, "!(1)1");
        fault(14, "!(!(!(!(!(!(!(!(1");
        fault(14, "!(!(!(!(!(!(!([1");
        fault(7, "[[[[[[[[1");
        fault(7, "[[[[[[[!");
        good("[[[[[[[1]]]]]]]");
        good("!(!(!(!(!(!(!(123)))))))");
        good("007");
        good("[1,2,3,4,5]");
        good("+(-(1,*(2,<(3,4))),?(a,=b(c,d),[F(1),G(2),H(3),@a(1),%(1,!(2),:x(3))]))".replace(":x", ":c"));
        String four = "[111,111,111,111,111],";
        four = "[" + four + four + four + four;
        good(four + "+(111,111)]");
        fault(99, four + "+(111,111)0");
        fault(100, four + "+(+(11,11),");

        EscapeFrames x = new EscapeFrames();
        for (int line = 0; line < 8; line++) {
            due.is("line()", line, Due.line(x, "" + line));
        }
        due.is("line(), empty, the ninth", FULL, x.line());
        due.is("line(), the ninth", FULL, Due.line(x, "1"));
        due.is("line(), with a FAULT, the ninth", FULL, Due.line(x, ")"));
        due.is("THE TEXT stays", 2, x.count(4));
        due.is("8 LINES", 8, x.count(0));
        for (int line = 0; line < 8; line++) {
            due.is("the LINES are kept apart", line, x.on(line, 1));
        }
    }

    private static void of(String text, int count, int deep, int catches, int calls) {
        EscapeFrames x = Due.with("%(1,2,3)", text);
        due.is("of 0: " + text, count, x.of(1, 0));
        due.is("of 1: " + text, deep, x.of(1, 1));
        due.is("of 2: " + text, catches, x.of(1, 2));
        due.is("of 3: " + text, calls, x.of(1, 3));
    }

    private static void promise4() {
        of("7", 1, 1, 0, 0);
        of("[1]", 2, 2, 0, 0);
        of("[1,2,3,4,5]", 6, 2, 0, 0);
        of("[1,[2,+(3,4)],5]", 8, 4, 0, 0);
        of("F(F(1))", 3, 3, 0, 1);
        of("?(F(1),G(2),H(3))", 7, 3, 0, 2);
        of("=a(F(1),G(2))", 5, 3, 0, 1);
        of("[F(1),G(2)]", 5, 3, 0, 1);
        of("[F(1)]", 3, 3, 0, 1);
        of("@a(F(@b(1)))", 4, 4, 2, 1);
        of("+(F(1),G(2))", 5, 3, 0, 0);
        of("%(F(1),G(2),H(3))", 7, 3, 0, 0);
        of("!(F(1))", 3, 3, 0, 0);
        of(":a(F(1))", 3, 3, 0, 0);
        of("^a(F(1))", 3, 3, 0, 0);
        of("+(?(1,F(1),G(1)),2)", 8, 4, 0, 0);
        of("[?(1,F(1),2),?(1,=a(1,G(2)),@c([3,H(4)]))]", 17, 6, 1, 2);
        of(LEFT, 16, 6, 1, 0);
        EscapeFrames x = Due.with("1");
        due.is("of(1, 0)", NONE, x.of(1, 0));
        due.is("of(-1, 0)", NONE, x.of(-1, 0));
        due.is("of(0, 4)", NONE, x.of(0, 4));
        due.is("of(0, -1)", NONE, x.of(0, -1));
    }

    private static void promise5() {
        EscapeFrames x = Due.with("+(a,1)", "*(a,2)", "F(5)", "[F(5),H(1)]");
        due.is("define(0, 0)", -5, x.define(0, 0));
        due.is("run by it", 6, x.on(2, 1));
        due.is("define(0, 1)", 0, x.define(0, 1));
        due.is("run by the other", 10, x.on(2, 1));
        due.is("define(0, 4)", NONE, x.define(0, 4));
        due.is("define(0, -2)", NONE, x.define(0, -2));
        due.is("define(3, 0)", NONE, x.define(3, 0));
        due.is("define(-1, 0)", NONE, x.define(-1, 0));
        due.is("define(2, 0)", -5, x.define(2, 0));
        due.is("H", 2, x.on(3, 1));
        due.is("define(0, -1)", 1, x.define(0, -1));
        due.is("LOST then", 3, x.on(2, 0));
        due.is("define(0, -1) again", -5, x.define(0, -1));
        x.begin(2);
        x.step(2);
        x.define(0, 1);
        x.step(1);
        x.define(0, -1);
        due.is("told by the LINE that it had at that step", 6, x.step(300));
        due.is("its result", 10, x.told(1));
    }

    private static void promise6() {
        EscapeFrames x = Due.with("[b,b]");
        due.is("value(1, 7)", 0, x.value(1, 7));
        due.is("value(1, MIN)", 7, x.value(1, MIN));
        due.is("value(1, 3)", MIN, x.value(1, 3));
        due.is("value(4, 3)", NO, x.value(4, 3));
        due.is("value(-1, 3)", NO, x.value(-1, 3));
        due.is("the others stay", 0, x.told(10) + x.told(12) + x.told(13));
        x.begin(0);
        x.step(2);
        x.value(1, 9);
        x.step(300);
        due.is("a RUN finds it as it is then", 9, x.told(1));
    }

    private static void promise7() {
        EscapeFrames x = Due.with(LEFT, "[!(1),2]");
        due.is("begin(2)", NONE, x.begin(2));
        due.is("begin(-1)", NONE, x.begin(-1));
        due.is("no RUN yet", -9, x.told(0));
        due.is("begin(0)", 16, x.begin(0));
        stood("begun", x, -5, NO, 0, 0);
        at("begun", x, 0, 0, 0, -5);
        x.step(14);
        due.is("begin(1)", 4, x.begin(1));
        stood("begun anew", x, -5, NO, 0, 0);
        at("begun anew", x, 0, 0, 0, -5);
        out("begun anew", x);
        due.is("step", 8, x.step(300));
        due.is("begin(1) behind it", 4, x.begin(1));
        out("begun behind it", x);
        due.is("begin(5)", NONE, x.begin(5));
        due.is("what ran goes on", -5, x.told(0));
    }

    private static void promise8() {
        EscapeFrames x = Due.with("@c(+(1,^c(7)))", LEFT, DOWN, "[[F(29)]]", "[[[F(29)]]]");
        due.is("step(1) without a RUN", STATE, x.step(1));
        due.is("step(0) without a RUN", STATE, x.step(0));
        due.is("step(301) without a RUN", BAD, x.step(301));
        x.begin(0);
        due.is("step(-1)", BAD, x.step(-1));
        due.is("step(301)", BAD, x.step(301));
        due.is("step(0)", 0, x.step(0));
        due.is("step(2)", 2, x.step(2));
        at("behind 2 steps", x, 1, 0, 0, 0);
        due.is("step(3)", 3, x.step(3));
        at("behind 5 steps", x, 2, 0, 0, 5);
        due.is("step(2) more", 2, x.step(2));
        at("behind 7 steps", x, 0, 0, 1, -5);
        due.is("step(300)", 1, x.step(300));
        stood(x + "", x, 0, 7, 8, 2);
        due.is("step(1) behind it", STATE, x.step(1));
        x.define(0, 2);
        x.begin(3);
        due.is("300 steps, the last is OVER", 300, x.step(300));
        stood("300 steps", x, 0, 0, 300, 2);
        x.begin(4);
        due.is("299 steps", 299, x.step(299));
        due.is("it runs", -5, x.told(0));
        due.is("one more", 1, x.step(1));
        stood("300 steps, and it isn't OVER", x, 8, NO, 300, 2);
        due.is("FUEL stands", STATE, x.step(1));
    }

    private static void kinds() {
        stood("@ of its own", ran("@b(b)"), 0, NO, 3, 0);
        stood("? by an ESCAPE", ran("?(@a(a),1,2)"), 2, NO, 4, 1);
        stood("op, an ESCAPE first", ran("+(@a(a),1)"), 2, NO, 6, 1);
        stood("op, an ESCAPE second", ran("<(1,@a(a))"), 2, NO, 6, 1);
        stood("! of an ESCAPE", ran("!(@a(a))"), 2, NO, 4, 1);
        stood(": of an ESCAPE", ran(":b(@a(a))"), 2, NO, 4, 1);
        stood("^ of a NUMBER", ran("^a(1)"), 2, NO, 1, 0);
        stood("^ of a NUMBER that is bound", ran("@a(=a(1,^a(2)))"), 2, NO, 5, 1);
        stood("an ESCAPE is bound, listed, kept", ran("=a(@b(b),[a,%(1,a,2)])"), 0, NO, 16, 1);
        stood("LOST", ran("H(1)"), 3, NO, 3, 1);
        stood("LOST behind its E", ran("G(^a(1))"), 2, NO, 2, 1);
        out("nothing of a KIND is written", ran("[!(1),!(@a(a))]"), 1);
        stood("+ wraps", wrapped("+(a,a)"), 0, -2, 6, 1);
        stood("- wraps", wrapped("-(-(0,a),2)"), 0, MAX, 10, 2);
        stood("* wraps", wrapped("*(a,a)"), 0, 1, 6, 1);
        stood("< by sign", wrapped("<(-(0,a),a)"), 0, 1, 10, 2);
        stood("< of alikes", wrapped("<(a,a)"), 0, 0, 6, 1);
    }

    private static EscapeFrames wrapped(String text) {
        EscapeFrames x = Due.with(text);
        x.value(0, MAX);
        x.run(0);
        return x;
    }

    private static void scopes() {
        stood("=, the latest counts", ran("=a(1,=a(2,+(a,b)))"), 0, 2, 12, 1);
        stood("=, only within", ran("+(=a(5,a),a)"), 0, 5, 9, 2);
        stood("= within the first E of =", ran("=a(=a(5,a),+(a,b))"), 0, 5, 12, 2);
        EscapeFrames x = Due.with("+(*(a,10),b)", "=b(7,=a(3,F(4)))", "[:b(5),=b(7,:b(1)),b]");
        x.define(0, 0);
        x.run(1);
        due.is("a FUNCTION knows a alone", 40, x.told(1));
        x.run(2);
        due.is(": is not a binding", 1, x.told(1));
        due.is("but a VALUE", 1, x.told(11));
    }

    private static void escapes() {
        EscapeFrames x = ran("=a(@b(b),?(<(:c(+(c,1)),3),^a(a),c))");
        due.is("gone to again, from long after", 0, x.told(0));
        due.is("gone to thrice", 3, x.told(1));
        x = ran("=a(%(!(1),@b(b),!(2)),?(<(c,1),^a(:c(1)),a))");
        out("come into again", x, 1, 2, 1, 2);
        due.is("with what was given", 1, x.told(1));
        x = ran("=a(%(!(1),%(!(2),@b(b),!(3)),!(4)),?(<(c,1),%(!(6),^a(:c(7)),!(8)),a))");
        out("left, then come into, in their order", x, 1, 2, 3, 4, 6, 8, 1, 2, 3, 4);
        due.is("v is kept on the way", 7, x.told(1));
        x = ran("@a(%(!(1),%(!(2),^a(9),!(3)),!(4)))");
        out("left from the latest on", x, 1, 2, 3, 4);
        due.is("and there", 9, x.told(1));
        x = ran("%(1,=a(@b(b),?(<(:c(+(c,1)),3),^a(a),!(c))),!(9))");
        out("the WINDER in common is not left", x, 3, 9);
        x = ran("@a(%(1,%(1,^a(5),^a(6)),!(7)))");
        out("gone from A on the way", x, 7);
        due.is("by the later ^", 6, x.told(1));
        x = ran("@a(+(1,=a(2,^a(3))))");
        due.is("^ of what is bound latest", 2, x.told(0));
        x = ran("+(@a(%(!(1),2,^a(30))),4)");
        due.is("gone from A of itself", 34, x.told(1));
        x = ran("=a(2,%(=a(3,!(a)),=a(4,!(a)),!(a)))");
        out("B, E, A in the SCOPE of %", x, 3, 4, 2);
        x = ran("@c(=a(2,%(!(a),=a(3,^c(9)),!(a))))");
        out("A on the way in the SCOPE of %", x, 2, 2);
        x = ran("=b(=a(2,%(!(a),@d(d),!(a))),=a(4,?(<(c,1),^b(:c(1)),c)))");
        out("B on the way in the SCOPE of %", x, 2, 2, 2, 2);
        stood("two ESCAPES, to the inner", ran("@a(+(100,@b(+(10,^b(2)))))"), 0, 102, 13, 3);
        stood("two ESCAPES, to the outer", ran("@a(+(100,@b(+(10,^a(2)))))"), 0, 2, 12, 3);
        x = ran("@a(+(1,@b(%(0,^b(5),!(2)))))");
        due.is("on the way to the inner", 6, x.told(1));
        x = ran("@b(+(1,@a(%(0,^b(5),!(2)))))");
        due.is("on the way to the outer", 5, x.told(1));
        x = ran("@a(+(100,=c(@b(b),^b(+(c,1)))))");
        due.is("an ESCAPE is no NUMBER to its own scope", 2, x.told(0));
        x = ran("+(=a(@b(%(!(1),^b(b),!(2))),5),3)");
        out("an ESCAPE is taken along", x, 1, 2);
        due.is("and bound", 8, x.told(1));
    }

    private static void deep() {
        EscapeFrames x = Due.with("+(1,F(a))", "F(0)", "?(a,+(0,+(0,+(0,+(0,F(-(a,1)))))),G(0))",
                "+(0,+(0,+(0,+(0,+(0,+(0,H(0)))))))", "+(0,+(0,^c(1)))", "F(8)", "+(0,+(0,!(1)))", "+(0,+(0,1))");
        x.define(0, 0);
        due.is("DEEP", 4, x.run(1));
        stood("DEEP", x, 4, NO, 241, 40);
        x.define(0, 2);
        x.define(1, 3);
        x.define(2, 4);
        due.is("KIND is ahead of DEEP", 2, x.run(5));
        stood("KIND with 40 frames", x, 2, NO, 213, 40);
        x.define(2, 6);
        due.is("a 41st frame", 4, x.run(5));
        stood("DEEP with 40 frames", x, 4, NO, 213, 40);
        x.define(2, 7);
        due.is("40 frames are not DEEP", 0, x.run(5));
        due.is("its DEEPEST", 40, x.told(3));
    }

    private static void promise9() {
        EscapeFrames x = Due.with(LEFT, DOWN, "[!(1),^a(2)]", "F(3)", "F(30)", "?(a,F(-(a,1)),^d(0))", "[[[F(29)]]]");
        due.is("run(0)", 0, x.run(0));
        stood("left", x, 0, 9, 25, 4);
        out("left", x, 1, 2, 4, 5);
        due.is("run(2)", 2, x.run(2));
        out("KIND", x, 1);
        due.is("run(7)", NONE, x.run(7));
        due.is("run(-1)", NONE, x.run(-1));
        due.is("the RUN stays", 2, x.told(0));
        due.is("run(3)", 3, x.run(3));
        x.define(0, 1);
        due.is("run(3), F having a LINE", 0, x.run(3));
        stood("last calls take no more frames", x, 0, 0, 38, 2);
        due.is("run(4)", 8, x.run(4));
        stood("FUEL", x, 8, NO, 300, 2);
        x.define(0, 5);
        due.is("KIND by the 300th step", 2, x.run(6));
        stood("KIND by the 300th step", x, 2, NO, 300, 2);
        due.is("it stands", STATE, x.step(1));
        kinds();
        scopes();
        escapes();
        deep();
    }

    private static void frames(String text, int steps, int frames, int winders, int latest) {
        EscapeFrames x = Due.with(text);
        x.begin(0);
        x.step(steps);
        due.is(text + ": FRAMES", frames, x.told(5));
        due.is(text + ": WINDERS", winders, x.told(6));
        due.is(text + ": the latest", latest, x.told(8));
    }

    private static void promise10() {
        frames("+(1,2)", 1, 1, 0, 0);
        frames("+(1,2)", 3, 1, 0, 0);
        frames("?(1,2,3)", 1, 1, 0, 1);
        frames("=a(1,2)", 1, 1, 0, 2);
        frames("[1,2]", 1, 1, 0, 3);
        frames("[1]", 1, 0, 0, -5);
        frames("G(1)", 1, 1, 0, 4);
        frames("@a(^a(1))", 1, 0, 0, -5);
        frames("@a(^a(1))", 2, 1, 0, 5);
        frames("!(1)", 1, 1, 0, 6);
        frames(":a(1)", 1, 1, 0, 7);
        frames("%(1,2,3)", 1, 1, 0, 8);
        frames("%(1,2,3)", 3, 1, 1, 8);
        frames("%(1,2,3)", 5, 1, 0, 8);
        frames(LEFT, 14, 4, 2, 5);
        frames(LEFT, 15, 1, 1, 9);
        frames(LEFT, 18, 1, 1, 9);
        frames(LEFT, 19, 1, 1, 8);
        frames("=a(%(0,@b(b),0),^a(1))", 13, 1, 0, 10);
        frames("=a(%(0,@b(b),0),^a(1))", 15, 2, 1, 8);

        EscapeFrames x = Due.with("[!(!(!(!(!(!(a)))))),F(+(a,1))]", "[:d(4),@a(a)]", "1");
        x.define(0, 0);
        x.define(2, 1);
        x.run(0);
        due.is("OUT has 40", 40, x.told(4));
        due.is("the first", 0, x.told(40));
        due.is("the last", 6, x.told(79));
        due.is("none at 40", NO, x.told(80));
        due.is("F", 0, x.told(20));
        due.is("G", -5, x.told(21));
        due.is("H", 1, x.told(22));
        x.run(1);
        due.is("OVER", 0, x.told(0));
        due.is("by an ESCAPE", NO, x.told(1));
        due.is("VALUE of d", 4, x.told(13));
        at("it stands", x, NO, NO, NO, NO);
        x.begin(2);
        x.step(1);
        due.is("it gives", 1, x.told(7));
        due.is("no RESULT yet", NO, x.told(1));
        for (int what : new int[] {-1, 9, 14, 19, 23, 24, 39, 40, MAX, MIN}) {
            due.is("told(" + what + ")", NO, x.told(what));
        }
    }

    private static void promise11() {
        EscapeFrames x = Due.with(LEFT, "[:a(+(a,5)),!(a)]", "@a(a)", "F(1)");
        x.begin(1);
        x.step(3);
        due.is("on(0, 0)", 0, x.on(0, 0));
        due.is("on(0, 1)", 9, x.on(0, 1));
        due.is("on(0, 2)", 25, x.on(0, 2));
        due.is("on(0, 3)", 4, x.on(0, 3));
        due.is("on(0, 4)", 4, x.on(0, 4));
        due.is("on(0, 42)", 4, x.on(0, 42));
        due.is("on(0, 44)", NO, x.on(0, 44));
        due.is("on(0, 39)", NO, x.on(0, 39));
        for (int what : new int[] {-1, 5, 6, 7, 8, 10, 20, MAX, MIN}) {
            due.is("on(0, " + what + ")", NO, x.on(0, what));
        }
        due.is("on(4, 0)", NO, x.on(4, 0));
        due.is("on(-1, 0)", NO, x.on(-1, 0));
        due.is("on(2, 0)", 0, x.on(2, 0));
        due.is("on(2, 1)", NO, x.on(2, 1));
        due.is("on(3, 0)", 3, x.on(3, 0));
        due.is("on(3, 1)", NO, x.on(3, 1));
        due.is("on(1, 40)", 5, x.on(1, 40));
        due.is("on(1, 40) again", 5, x.on(1, 40));
        due.is("VALUE stays", 0, x.told(10));
        due.is("the RUN stays", 3, x.told(2));
        at("the RUN stays", x, 3, 0, 0, 0);
        x.step(300);
        out("it goes on", x, 5);
    }

    private static void promise12() {
        EscapeFrames x = new EscapeFrames();
        due.is("see(0, 1)", 1, x.see(0, 1));
        due.is("see(39, MIN)", 2, x.see(39, MIN));
        due.is("see(40, 0)", BAD, x.see(40, 0));
        due.is("see(-2, 0)", BAD, x.see(-2, 0));
        due.is("see(0, 1) again", 3, x.see(0, 1));
        x.see(0, 2);
        due.is("the fifth", 5, x.see(0, 2));
        due.is("the sixth", FULL, x.see(0, 2));
        due.is("BAD is ahead of FULL", BAD, x.see(40, 2));
        due.is("count(1)", 5, x.count(1));
        due.is("see(-1, 7)", 0, x.see(-1, 7));
        due.is("count(1) then", 0, x.count(1));
    }

    private static void promise13() {
        EscapeFrames x = Due.with("[!(<(a,5)),!(*(b,b)),^d(1)]", "1");
        due.is("none SEEN", 20, x.fits(0, 0, 0));
        due.is("none SEEN, the least", 0, x.fits(0, 0, 1));
        x.see(0, 0);
        due.is("from 5 on", 15, x.fits(0, 0, 0));
        due.is("the least", 5, x.fits(0, 0, 1));
        x.see(1, 361);
        due.is("not by b's own VALUE", 0, x.fits(0, 0, 0));
        due.is("so none", -5, x.fits(0, 0, 1));
        x.value(0, 5);
        due.is("by b 19", 1, x.fits(0, 1, 0));
        due.is("that is the least", 19, x.fits(0, 1, 1));
        due.is("an empty OUT has no place 0", 0, x.fits(1, 0, 0));
        x.see(2, 0);
        due.is("OUT is not that long", 0, x.fits(0, 1, 0));
        due.is("fits(2, 0, 0)", NONE, x.fits(2, 0, 0));
        due.is("fits(-1, 0, 0)", NONE, x.fits(-1, 0, 0));
        due.is("fits(0, 4, 0)", NONE, x.fits(0, 4, 0));
        due.is("fits(0, -1, 0)", NONE, x.fits(0, -1, 0));
        due.is("fits(0, 0, 2)", NONE, x.fits(0, 0, 2));
        due.is("fits(0, 0, -1)", NONE, x.fits(0, 0, -1));
        due.is("VALUES stay", 5, x.told(10) + x.told(11));
        due.is("no RUN", -9, x.told(0));
    }

    private static void promise14() {
        EscapeFrames x = Due.with("[!(1),^a(2)]", "[!(1),?(@a(a),1,2)]", "[!(2),^a(2)]", "[!(1),7]", "[!(1),+(3,4)]",
                "[!(1),@c(c)]", "[!(1),=b(@d(d),b)]", "[!(:a(+(a,1))),7]");
        due.is("both KIND", 1, x.alike(0, 1));
        due.is("OUT is otherwise", 0, x.alike(0, 2));
        due.is("STATUS is otherwise", 0, x.alike(0, 3));
        due.is("RESULTS alike", 1, x.alike(3, 4));
        due.is("RESULT and ESCAPE", 0, x.alike(3, 5));
        due.is("two ESCAPES", 1, x.alike(5, 6));
        due.is("each from the VALUES as they are", 1, x.alike(7, 7));
        due.is("the first doesn't change them for the second", 1, x.alike(7, 4));
        due.is("VALUE stays", 0, x.told(10));
        due.is("alike(0, 8)", NONE, x.alike(0, 8));
        due.is("alike(8, 0)", NONE, x.alike(8, 0));
        due.is("alike(-1, 0)", NONE, x.alike(-1, 0));
        x = Due.with("[!(1),7]", "[!(1),8]", "7", "[!(1),!(1),7]", "F(1)", "^a(1)");
        due.is("RESULTS otherwise", 0, x.alike(0, 1));
        due.is("OUT shorter", 0, x.alike(0, 2));
        due.is("OUT longer", 0, x.alike(0, 3));
        due.is("LOST and KIND", 0, x.alike(4, 5));
    }

    private static void odds(String text, int above, int below) {
        EscapeFrames x = Due.with(text);
        x.value(0, 3);
        due.is("odds above of " + text, above, x.odds(0, 0, 0));
        due.is("odds below of " + text, below, x.odds(0, 0, 1));
        due.is("VALUE stays", 3, x.told(10));
    }

    private static void promise15() {
        odds("a", 9, 10);
        odds("<(a,5)", 1, 2);
        odds("<(a,4)", 2, 5);
        odds("1", 1, 1);
        odds("0", 0, 1);
        odds("-(0,a)", 9, 10);
        odds("@b(b)", 0, 1);
        odds("^a(1)", 0, 1);
        odds("?(<(a,2),@b(b),?(<(a,4),^b(1),7))", 3, 5);
        odds("?(<(a,1),F(1),b)", 0, 1);
        EscapeFrames x = Due.with("b");
        due.is("another NAME", 1, x.odds(0, 0, 1));
        due.is("odds(0, 0, 2)", NO, x.odds(0, 0, 2));
        due.is("odds(0, 0, -1)", NO, x.odds(0, 0, -1));
        due.is("odds(0, 4, 0)", NO, x.odds(0, 4, 0));
        due.is("odds(0, -1, 0)", NO, x.odds(0, -1, 0));
        due.is("odds(1, 0, 0)", NO, x.odds(1, 0, 0));
        due.is("odds(-1, 0, 0)", NO, x.odds(-1, 0, 0));
    }

    private static void mean(String text, int a, long above, long below) {
        EscapeFrames x = Due.with(text);
        x.value(0, a);
        due.is("mean above of " + text, above, x.mean(0, 0));
        due.is("mean below of " + text, below, x.mean(0, 1));
    }

    private static void promise16() {
        mean("[!(a),!(b)]", -3, -3, 2);
        mean("[!(a),!(b)]", 4, 2, 1);
        mean("[!(a),!(b)]", 0, 0, 1);
        mean("[!(a),!(2),!(3),!(5)]", 0, 5, 2);
        mean("[!(a),!(a),!(1)]", MAX, 1431655765, 1);
        mean("[!(a),!(a)]", MIN, MIN, 1);
        mean("[!(a),!(a),!(0)]", MIN, 2L * MIN, 3);
        mean("[!(7),^a(1)]", 0, 7, 1);
        mean("7", 0, NO, NO);
        EscapeFrames x = Due.with("!(1)");
        mean("!(:a(+(a,1)))", 3, 4, 1);
        due.is("mean(0, 2)", NO, x.mean(0, 2));
        due.is("mean(0, -1)", NO, x.mean(0, -1));
        due.is("mean(1, 0)", NO, x.mean(1, 0));
        due.is("mean(-1, 0)", NO, x.mean(-1, 0));
        due.is("no RUN", -9, x.told(0));
    }

    private static void promise17() {
        EscapeFrames x = Due.with("1", "2");
        due.is("plan(0, 1)", 1, x.plan(0, 1));
        due.is("plan(1, 3)", 2, x.plan(1, 3));
        due.is("plan(2, 2)", 3, x.plan(2, 2));
        for (int[] row : new int[][] {{0, 2}, {0, -1}, {1, 4}, {1, -1}, {2, 3}, {2, -1}, {3, 0}, {-2, 0}}) {
            due.is("plan(" + row[0] + ", " + row[1] + ")", NONE, x.plan(row[0], row[1]));
        }
        due.is("count(2)", 3, x.count(2));
        for (int n = 4; n <= 10; n++) {
            due.is("plan, the " + n + "th", n, x.plan(0, 0));
        }
        due.is("plan, the 11th", FULL, x.plan(0, 0));
        due.is("NONE is ahead of FULL", NONE, x.plan(0, 2));
        due.is("plan(-1, 99)", 0, x.plan(-1, 99));
        due.is("count(2) then", 0, x.count(2));
    }

    private static void promise18() {
        EscapeFrames x = Due.with(":a(F(+(a,2)))", "+(a,1)", ":b(+(b,a))");
        x.define(0, 1);
        x.value(0, 10);
        due.is("no PLAN", 10, x.ends(0));
        x.plan(0, 0);
        due.is("a RUN", 13, x.ends(0));
        x.plan(0, 2);
        due.is("what is left of it goes on", 13, x.ends(1));
        x.plan(1, 0);
        due.is("VALUE is 0", 0, x.ends(0));
        x.plan(0, 0);
        due.is("and a RUN", 3, x.ends(0));
        x.plan(2, 0);
        x.plan(0, 0);
        due.is("F has no LINE", 3, x.ends(0));
        due.is("the others", 0, x.ends(3));
        due.is("ends(4)", NO, x.ends(4));
        due.is("ends(-1)", NO, x.ends(-1));
        due.is("VALUES stay", 10, x.told(10));
        due.is("FUNCTIONS stay", 1, x.told(20));
        due.is("no RUN", -9, x.told(0));
    }

    private static void promise19() {
        EscapeFrames x = new EscapeFrames();
        due.is("book(0, 0)", 1, x.book(0, 0));
        due.is("book(3, MIN)", 2, x.book(3, MIN));
        due.is("book(4, 0)", NONE, x.book(4, 0));
        due.is("book(-2, 0)", NONE, x.book(-2, 0));
        for (int n = 3; n <= 8; n++) {
            due.is("book, the " + n + "th", n, x.book(0, 0));
        }
        due.is("book, the ninth", FULL, x.book(0, 0));
        due.is("NONE is ahead of FULL", NONE, x.book(4, 0));
        due.is("count(3)", 8, x.count(3));
        due.is("book(-1, 9)", 0, x.book(-1, 9));
        due.is("count(3) then", 0, x.count(3));
    }

    private static void promise20() {
        EscapeFrames x = new EscapeFrames();
        due.is("an empty BOOK", -5, x.looked());
        x.book(1, 0);
        x.book(2, 0);
        x.book(1, 0);
        due.is("all as told", -5, x.looked());
        x.value(2, 8);
        due.is("c is otherwise", 1, x.looked());
        x.value(1, 8);
        due.is("b is otherwise", 0, x.looked());
        x.value(1, 0);
        x.value(2, 0);
        x.book(1, 5);
        due.is("two rows that can't both be", 3, x.looked());
    }

    private static void promise21() {
        EscapeFrames x = Due.with("[!(5),!(6),7]", "1");
        due.is("OUT is empty", -5, x.judge(0, 0));
        due.is("OUT is empty, wherever", -5, x.judge(0, MIN));
        x.tape(1, 0, 3);
        due.is("CAST, though OUT is empty", CAST, x.judge(1, 0));
        due.is("judge(6, 0)", NONE, x.judge(6, 0));
        due.is("judge(-1, 0)", NONE, x.judge(-1, 0));
        x.run(0);
        due.is("a TAPE that holds nothing", 100, x.judge(0, 0));
        x.tape(0, 2, 4);
        x.item(0, 1, 5);
        x.item(0, 2, 6);
        x.item(0, 3, 5);
        due.is("as it is", -5, x.judge(0, 1));
        due.is("the first is otherwise", 0, x.judge(0, 0));
        due.is("the row ends behind the first", 101, x.judge(0, 3));
        due.is("beyond the row", 100, x.judge(0, 4));
        due.is("far beyond the row", 100, x.judge(0, MAX));
        due.is("below 0", 100, x.judge(0, -1));
        due.is("far below 0", 100, x.judge(0, MIN));
        x.item(0, 2, 7);
        due.is("the second is otherwise", 1, x.judge(0, 1));
        due.is("bytes", CAST, x.judge(1, 0));
        x.tape(1, 3, 3);
        due.is("longs", CAST, x.judge(1, 0));
        x.begin(0);
        x.step(4);
        x.item(0, 3, 5);
        due.is("while it runs", -5, x.judge(0, 3));
        x.run(1);
        due.is("OUT is empty again", -5, x.judge(0, 9));
    }

    private static void promise22and23() {
        EscapeFrames x = Due.with(LEFT, "a");
        due.is("undo() without one", STATE, x.undo());
        x.define(0, 1);
        x.value(0, 4);
        x.see(0, 1);
        x.plan(0, 0);
        x.book(0, 4);
        x.begin(0);
        x.step(15);
        due.is("image()", 2, x.image());
        x.step(300);
        x.define(0, -1);
        x.define(1, 0);
        x.value(0, 5);
        x.see(-1, 0);
        x.plan(1, 0);
        x.book(-1, 0);
        x.tape(0, 2, 3);
        x.feed('7');
        x.line();
        x.feed('8');
        x.run(1);
        due.is("undo()", 3, x.undo());
        due.is("F", 1, x.told(20));
        due.is("G", -5, x.told(21));
        due.is("VALUE", 4, x.told(10));
        due.is("LINES stay", 3, x.count(0));
        due.is("SEEN", 1, x.count(1));
        due.is("the PLAN", 1, x.count(2));
        due.is("the BOOK", 1, x.count(3));
        due.is("THE TEXT stays", 1, x.count(4));
        due.is("TAPES stay", 0, x.read(0, 2));
        due.is("what is SEEN", 20, x.fits(0, 0, 0));
        due.is("what is planned", 4, x.ends(0));
        due.is("what is in the BOOK", -5, x.looked());
        stood("the RUN as it was", x, -5, NO, 15, 4);
        at("the RUN as it was", x, 1, 1, 0, 9);
        out("the RUN as it was", x, 1, 2);
        due.is("it goes on", 10, x.step(300));
        stood("to its end", x, 0, 9, 25, 4);
        out("to its end", x, 1, 2, 4, 5);
        due.is("undo() again", 3, x.undo());
        due.is("as before", 15, x.told(2));
        x.begin(1);
        x.step(1);
        due.is("image() once more", 3, x.image());
        x.run(0);
        x.undo();
        at("the latest image", x, 0, 0, 1, -5);
        due.is("gives what it gave", 1, x.step(9));
        due.is("that is", 4, x.told(1));

        imageOfRows();
        x = Due.with("!(1)");
        x.image();
        x.run(0);
        x.undo();
        stood("there was none", x, -9, NO, 0, 0);
        out("there was none", x);
        due.is("it doesn't run", STATE, x.step(1));
    }

    /** Other rows of the same length come between THE IMAGE and undo(), and another RUN, at each step. */
    private static void imageOfRows() {
        for (int n = 0; n < 32; n++) {
            EscapeFrames x = imageAt(0, n);
            due.is("what is SEEN", 20, x.fits(0, 3, 0));
            due.is("what is planned for a", 0, x.ends(0));
            due.is("what is planned for b", 3, x.ends(1));
            due.is("what is in the BOOK", -5, x.looked());
            due.is("the steps left", 32 - n, x.step(300));
            stood("the RUN goes on, from " + n, x, 0, 7, 32, 4);
            out("the RUN goes on, from " + n, x, 5, 6, 0, 6);
        }
        for (int n = 0; n < 74; n++) {
            EscapeFrames x = imageAt(4, n);
            due.is("the steps left", 74 - n, x.step(300));
            due.is("the RUN comes in, from " + n, 2, x.told(1));
            out("the RUN comes in, from " + n, x, 1, 2, 3, 4, 1, 2, 3, 4);
        }
        imageOfShort("=a(1,[=b(2,b),!(b)])", 0);
        imageOfShort("!(@a(+(1,@b(^a(5)))))", 5);
        imageOfShort("@b(=a(5,%(0,^b(1),!(a))))", 5);
    }

    /** A RUN that makes little comes between: what is made behind undo() must not take its places. */
    private static void imageOfShort(String text, int written) {
        EscapeFrames x = Due.with(text, "%(1,2,3)");
        long steps = x.on(0, 2);
        for (int n = 0; n < steps; n++) {
            x.begin(0);
            x.step(n);
            x.image();
            x.run(1);
            x.undo();
            x.step(300);
            out(text + " from " + n, x, written);
        }
    }

    private static EscapeFrames imageAt(int line, int n) {
        EscapeFrames x = Due.with("=a(5,@b(%(!(a),%(!(6),[@d(^b(7)),1],!(d)),!(+(a,1)))))",
                "@c(=d(9,%(:d(1),%(=b(a,2),%(=a(@d(d),8),[^c(3),4],!(7)),5),%(6,=b(c,7),8))))", ":b(3)", ":b(4)",
                "=a(%(!(1),%(!(2),@b(b),!(3)),!(4)),?(<(:c(+(c,1)),2),^a(a),c))");
        x.see(1, 6);
        x.plan(0, 2);
        x.plan(1, 0);
        x.book(1, 0);
        x.value(0, 9);
        x.begin(line);
        x.step(n);
        due.is("image() on the way", 5, x.image());
        due.is("the other RUN", 0, x.run(1));
        x.see(-1, 0);
        x.see(0, 7);
        x.plan(-1, 0);
        x.plan(0, 3);
        x.plan(1, 2);
        x.book(-1, 0);
        x.book(2, 1);
        due.is("undo() on the way", 5, x.undo());
        return x;
    }

    private static void promise24() {
        EscapeFrames x = Due.with("1", "2", "3");
        x.feed('x');
        x.see(0, 0);
        x.see(1, 0);
        x.plan(0, 0);
        x.book(0, 0);
        x.book(0, 0);
        x.book(0, 0);
        x.book(0, 0);
        int[] want = {3, 2, 1, 4, 1};
        for (int what = 0; what < 5; what++) {
            due.is("count(" + what + ")", want[what], x.count(what));
        }
        due.is("count(5)", BAD, x.count(5));
        due.is("count(-1)", BAD, x.count(-1));
    }

    private static void promise25() {
        EscapeFrames x = new EscapeFrames();
        for (int sort = 0; sort < 5; sort++) {
            due.is("tape(sort " + sort + ")", 1, x.tape(sort, sort, 60));
            due.is("its last", 0, x.read(sort, 59));
            due.is("no more", NO, x.read(sort, 60));
        }
        x.item(2, 1, 7);
        due.is("made anew", 1, x.tape(2, 2, 2));
        due.is("all 0", 0, x.read(2, 1));
        due.is("no more than that", NO, x.read(2, 2));
        due.is("a row of none", 1, x.tape(2, 0, 0));
        due.is("it is a row", PLACE, x.item(2, 0, 0));
        due.is("nothing", 1, x.tape(2, -1, MIN));
        due.is("it is nothing", NOTHING, x.item(2, 0, 0));
        due.is("tape(6, 9, 99)", NONE, x.tape(6, 9, 99));
        due.is("tape(-1, 0, 0)", NONE, x.tape(-1, 0, 0));
        due.is("sort 5", BAD, x.tape(1, 5, 1));
        due.is("sort -2", BAD, x.tape(1, -2, 1));
        due.is("sort 5, size below 0", BAD, x.tape(1, 5, -1));
        due.is("61", BAD, x.tape(1, 1, 61));
        due.is("MAX", BAD, x.tape(1, 1, MAX));
        due.is("size below 0", SIZE, x.tape(1, 1, -1));
        due.is("MIN", SIZE, x.tape(1, 1, MIN));
        due.is("it stays", 0, x.read(1, 59));
    }

    private static void promise26and27() {
        EscapeFrames x = new EscapeFrames();
        long v = 0x123456789abcdef0L;
        long[] want = {(byte) v, (short) v, (int) v, v, 1};
        for (int sort = 0; sort < 5; sort++) {
            x.tape(sort, sort, 3);
            due.is("item", 1, x.item(sort, 2, v));
            due.is("read, sort " + sort, want[sort], x.read(sort, 2));
            due.is("another item", 0, x.read(sort, 1));
            due.is("item(3)", PLACE, x.item(sort, 3, v));
            due.is("item(-1)", PLACE, x.item(sort, -1, v));
            due.is("read(3)", NO, x.read(sort, 3));
            due.is("read(-1)", NO, x.read(sort, -1));
            x.item(sort, 2, 0);
            due.is("0 again", 0, x.read(sort, 2));
        }
        x.item(0, 0, 255);
        due.is("a byte", -1, x.read(0, 0));
        x.item(4, 0, 1L << 40);
        due.is("true by a high bit", 1, x.read(4, 0));
        due.is("item(5)", NOTHING, x.item(5, -1, 0));
        due.is("item(6)", NONE, x.item(6, 0, 0));
        due.is("item(-1)", NONE, x.item(-1, 0, 0));
        due.is("read(5, 0)", NO, x.read(5, 0));
        due.is("read(6, 0)", NO, x.read(6, 0));
        due.is("read(-1, 0)", NO, x.read(-1, 0));
    }

    private static void promise28() {
        EscapeFrames x = new EscapeFrames();
        x.tape(0, 2, 5);
        x.tape(1, 2, 3);
        x.tape(2, 3, 5);
        for (int i = 0; i < 5; i++) {
            x.item(0, i, i + 1);
        }
        due.is("shift up, itself", 4, x.shift(0, 0, 0, 1, 4));
        long[] up = {1, 1, 2, 3, 4};
        for (int i = 0; i < 5; i++) {
            due.is("up", up[i], x.read(0, i));
        }
        due.is("shift down, itself", 3, x.shift(0, 2, 0, 0, 3));
        long[] down = {2, 3, 4, 3, 4};
        for (int i = 0; i < 5; i++) {
            due.is("down", down[i], x.read(0, i));
        }
        due.is("to another", 2, x.shift(0, 1, 1, 1, 2));
        due.is("its first", 0, x.read(1, 0));
        due.is("its last", 4, x.read(1, 2));
        due.is("none, at both ends", 0, x.shift(0, 5, 1, 3, 0));
        due.is("none, beyond", PLACE, x.shift(0, 6, 1, 3, 0));
        due.is("none, beyond the other", PLACE, x.shift(0, 5, 1, 4, 0));
        due.is("beyond the end", PLACE, x.shift(0, 3, 1, 0, 3));
        due.is("beyond the other's end", PLACE, x.shift(0, 0, 1, 1, 3));
        due.is("i below 0", PLACE, x.shift(0, -1, 1, 0, 1));
        due.is("j below 0", PLACE, x.shift(0, 0, 1, -1, 1));
        due.is("n below 0", PLACE, x.shift(0, 0, 1, 0, -1));
        due.is("far", PLACE, x.shift(0, MAX, 1, MAX, MAX));
        due.is("far n", PLACE, x.shift(0, 1, 1, 1, MAX));
        due.is("unlike sorts", CAST, x.shift(0, -1, 2, 0, 0));
        due.is("nothing there", NOTHING, x.shift(0, -1, 3, 0, 0));
        due.is("nothing here", NOTHING, x.shift(3, 0, 2, 0, 0));
        due.is("shift(6)", NONE, x.shift(6, 0, 3, 0, 0));
        due.is("to 6", NONE, x.shift(3, 0, 6, 0, 0));
        due.is("to -1", NONE, x.shift(3, 0, -1, 0, 0));
        due.is("nothing changed", 3, x.read(1, 1));
    }

    public static void main(String[] args) {
        promise1();
        promise2();
        promise3();
        promise4();
        promise5();
        promise6();
        promise7();
        promise8();
        promise9();
        promise10();
        promise11();
        promise12();
        promise13();
        promise14();
        promise15();
        promise16();
        promise17();
        promise18();
        promise19();
        promise20();
        promise21();
        promise22and23();
        promise24();
        promise25();
        promise26and27();
        promise28();
        due.end("PromisesTest");
    }
}
