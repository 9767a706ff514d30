/** Each sentence on THE MACHINE that names an edge, by its own words: Terms, promises 7 to 10. */
public final class MachineEdgesTest {
    private static final Due due = new Due();

    // F counts a down with last calls: X is reached by the step 10 a + 7 of "F(a)", with no frame.
    private static final String DOWN = "?(a,F(-(a,1)),X)";
    // "F(8)" reaches X by its 213th step, with 40 frames; without the last +, with 39.
    private static final String DEEP = "'F(8)'=0 '?(a,+(0,+(0,+(0,+(0,F(-(a,1)))))),G(0))'=1 "
            + "'+(0,+(0,+(0,+(0,+(0,+(0,H(0)))))))'=2 'X'=3 define(0,1) define(1,2) define(2,3) ";

    private static void holds(String sentence, String... calls) {
        Play.holds(due, sentence, calls);
    }

    /** The LINE 0, RUN at once, by STEPS, and ON it: it stands so, and OUT is so. */
    private static void ran(String sentence, String lines, String stood, String out) {
        String status = stood.substring(0, stood.indexOf(','));
        String steps = stood.split(",")[2];
        holds(sentence, lines, "run(0)=" + status, "STOOD=" + stood, "OUT=" + out, "AT=NO", "step(1)=STATE");
        holds(sentence + ", by STEPS", lines, "begin(0) step(0)=0 step(300)=" + steps, "STOOD=" + stood, "OUT=" + out);
        holds(sentence + ", one STEP ahead", lines, "begin(0) step(" + (Integer.parseInt(steps) - 1) + ") told(0)=-5",
                "told(1)=NO step(300)=1 STOOD=" + stood + " step(0)=STATE");
        holds(sentence + ", ON it", lines, "on(0,0..3)=" + stood + " told(0)=-9 on(0,4)="
                + (out.isEmpty() ? 0 : out.split(",").length));
    }

    /** The rows of told(5 .. 8) of LINE 0 from its begin on, behind each STEP, till it stands. */
    private static void trace(String lines, int status, String... rows) {
        String calls = "begin(0)";
        for (String row : rows) {
            calls += " told(0)=-5 AT=" + row + " step(1)=1";
        }
        holds("each STEP of " + lines, lines, calls, "told(0)=" + status, "AT=NO told(2)=" + rows.length, "step(1)=STATE");
    }

    private static void promise7() {
        String lines = "'[!(1),!(2),+(3,4)]'=0 '7'=1 'a'=2 ";
        holds("A RUN begins: OUT is empty, STEPS and DEEPEST are 0, STATUS -5", lines,
                "begin(0)=8 STOOD=-5,NO,0,0 OUT= AT=0,0,0,-5");
        holds("whatever ran: one that runs", lines, "begin(0) step(12) OUT=1,2 begin(0)=8 STOOD=-5,NO,0,0 OUT=",
                "AT=0,0,0,-5 step(300)=17 OUT=1,2 told(1)=7");
        holds("whatever ran: one that stands", lines, "run(0)=0 OUT=1,2 begin(1)=1 STOOD=-5,NO,0,0 OUT= AT=0,0,0,-5",
                "step(9)=2 STOOD=0,7,2,0");
        holds("a RUN that begins leaves VALUES", "':b(5)'=0 'b'=1 run(0)=0 begin(1)=1 told(11)=5 step(2)=2 told(1)=5");
        holds("at first: CHAIN and WINDERS empty, though they were not", "'%(1,^a(1),3)'=0 '@a(^a(7))'=1 run(0)=2 begin(1)=3",
                "AT=0,0,0,-5 step(300)=5 STOOD=0,7,5,1 begin(0) step(3) AT=1,1,0,8 begin(1) AT=0,0,0,-5 run(1)=0 STOOD=0,7,5,1");
        holds("at first: in a SCOPE that binds nothing", "'=a(1,^b(a))'=0 'a'=1 run(0)=2 run(1)=0 STOOD=0,0,2,0");
        holds("RUNS of one object, as many as there may be", "'+(1,@a(@b(@c(@d(@a(^a(5)))))))'=0 400*run(0)=0 STOOD=0,6,13,2");
        holds("RUNS of many WINDERS", "'@d(%(1,%(2,%(3,%(4,%(5,^d(9),!(5)),!(4)),!(3)),!(2)),!(1)))'=0 400*run(0)=0",
                "STOOD=0,9,40,6 OUT=5,4,3,2,1");
        holds("NONE", lines, "begin(-1)=NONE begin(3)=NONE begin(8)=NONE begin(MAX)=NONE begin(MIN)=NONE told(0)=-9",
                "begin(0) step(3) begin(3)=NONE STOOD=-5,NO,3,2");
    }

    private static void promise8() {
        holds("n STEPS (0 .. 300)", "'F(0)'=0 define(0,0) begin(0) step(0)=0 told(2)=0 step(300)=300 told(2)=300");
        holds("fewer, if it stands ahead of that", "'7'=0 begin(0) step(1)=1 step(2)=1 begin(0) step(2)=2 begin(0) step(3)=2");
        holds("BAD", "'7'=0 begin(0) step(-1)=BAD step(301)=BAD step(MIN)=BAD step(MAX)=BAD STOOD=-5,NO,0,0");
        holds("STATE: it doesn't run: there was none", "'7'=0 step(0)=STATE step(1)=STATE step(300)=STATE told(0)=-9");
        holds("STATE: it doesn't run: it stands", "'7'=0 run(0)=0 step(0)=STATE step(1)=STATE told(2)=2");
        holds("STATE: it stands, by each STATUS", "'^a(1)'=0 'F(1)'=1 'G(1)'=2 '+(1,H(1))'=3 define(1,2) define(2,3)",
                "run(0)=2 step(1)=STATE run(1)=3 step(1)=STATE run(2)=8 step(1)=STATE run(3)=4 step(1)=STATE told(0)=4");
        holds("BAD is named ahead of STATE", "'7'=0 step(-1)=BAD step(301)=BAD run(0) step(301)=BAD step(300)=STATE");
    }

    private static void promise9() {
        String lines = "'7'=0 '^a(1)'=1 'F(1)'=2 'G(1)'=3 '+(1,H(1))'=4 define(1,3) define(2,4) ";
        holds("till it stands: STATUS", lines, "run(0..4)=0,2,3,8,4");
        holds("NONE", lines, "run(3) run(-1)=NONE run(5)=NONE run(8)=NONE run(MAX)=NONE run(MIN)=NONE STOOD=8,NO,300,1");
        holds("a RUN on the way is left", lines, "begin(4) step(9) run(0)=0 STOOD=0,7,2,0 step(1)=STATE");
    }

    private static void stepsAtWork() {
        trace("'7'=0", 0, "0,0,0,-5", "0,0,1,-5");
        trace("'d'=0", 0, "0,0,0,-5", "0,0,1,-5");
        trace("'[[7]]'=0", 0, "0,0,0,-5", "0,0,0,-5", "0,0,0,-5", "0,0,1,-5");
        trace("'@a(a)'=0", 0, "0,0,0,-5", "0,0,0,-5", "0,0,1,-5");
        trace("'+(1,2)'=0", 0, "0,0,0,-5", "1,0,0,0", "1,0,1,0", "1,0,0,0", "1,0,1,0", "0,0,1,-5");
        trace("'?(1,2,3)'=0", 0, "0,0,0,-5", "1,0,0,1", "1,0,1,1", "0,0,0,-5", "0,0,1,-5");
        trace("'=a(1,2)'=0", 0, "0,0,0,-5", "1,0,0,2", "1,0,1,2", "0,0,0,-5", "0,0,1,-5");
        trace("'[1,2,3]'=0", 0, "0,0,0,-5", "1,0,0,3", "1,0,1,3", "0,0,0,-5", "1,0,0,3", "1,0,1,3", "0,0,0,-5",
                "0,0,0,-5", "0,0,1,-5");
        trace("'F(1)'=0 '[a]'=1 define(0,1)", 0, "0,0,0,-5", "1,0,0,4", "1,0,1,4", "0,0,0,-5", "0,0,0,-5", "0,0,1,-5");
        trace("'H(1)'=0", 3, "0,0,0,-5", "1,0,0,4", "1,0,1,4");
        trace("'!(1)'=0", 0, "0,0,0,-5", "1,0,0,6", "1,0,1,6", "0,0,1,-5");
        trace("':a(1)'=0", 0, "0,0,0,-5", "1,0,0,7", "1,0,1,7", "0,0,1,-5");
        trace("'%(1,2,3)'=0", 0, "0,0,0,-5", "1,0,0,8", "1,0,1,8", "1,1,0,8", "1,1,1,8", "1,0,0,8", "1,0,1,8", "0,0,1,-5");
        trace("'@a(+(1,^a(7)))'=0", 0, "0,0,0,-5", "0,0,0,-5", "1,0,0,0", "1,0,1,0", "1,0,0,0", "2,0,0,5", "2,0,1,5",
                "0,0,1,-5");
        trace("'@a(%(1,^a(7),3))'=0", 0, "0,0,0,-5", "0,0,0,-5", "1,0,0,8", "1,0,1,8", "1,1,0,8", "2,1,0,5", "2,1,1,5",
                "1,0,0,9", "1,0,1,9", "0,0,1,-5");
        trace("'=a(%(0,@b(b),0),^a(1))'=0", 2, "0,0,0,-5", "1,0,0,2", "2,0,0,8", "2,0,1,8", "2,1,0,8", "2,1,0,8", "2,1,1,8",
                "2,0,0,8", "2,0,1,8", "1,0,1,2", "0,0,0,-5", "1,0,0,5", "1,0,1,5", "1,0,0,10", "1,0,1,10", "2,1,1,8",
                "2,0,0,8", "2,0,1,8", "1,0,1,2", "0,0,0,-5");
    }

    private static void things() {
        ran("A letter: what the SCOPE binds it to; the latest counts", "'=a(1,=a(2,a))'=0", "0,2,8,1", "");
        ran("a SCOPE binds within its E alone", "value(0,9) '+(=a(1,a),a)'=0", "0,10,9,2", "");
        ran("if to nothing, its VALUE", "value(1,-4) '=a(1,b)'=0", "0,-4,5,1", "");
        ran("[E,..]: the others in the SCOPE of the frame", "value(0,9) '[=a(1,2),a]'=0", "0,9,9,2", "");
        ran("=x: x is not bound in the first E", "value(0,9) '=a(a,a)'=0", "0,9,5,1", "");
        ran("in a SCOPE that binds a to v", "'F(6)'=0 '+(a,b)'=1 define(0,1) value(0,50) value(1,70)", "0,76,9,1", "");
        ran("and nothing else", "'=b(7,=a(3,F(4)))'=0 '+(*(a,10),b)'=1 define(0,1) value(1,2)", "0,42,19,2", "");
        ran("binds a to v, an ESCAPE, too", "'+(1,@c(F(c)))'=0 '^a(5)'=1 define(0,1)", "0,6,12,2", "");
        ran("behind a FUNCTION the SCOPE is as it was", "'=b(7,+(F(1),b))'=0 '=b(8,b)'=1 define(0,1)", "0,15,15,2", "");
        ran("digits: it gives that NUMBER", "'007'=0", "0,7,2,0", "");
        ran("OVER: v is the RESULT, an ESCAPE", "'@b(b)'=0", "0,NO,3,0", "");
        ran("RESULT is a NUMBER, the least", "value(0,MIN) 'a'=0", "0,MIN,2,0", "");
    }

    /** What an op makes of a and b. */
    private static void op(char op, String a, String b, String made) {
        ran("the op makes of the one kept and v: " + op, "value(0," + a + ") value(1," + b + ") '" + op + "(a,b)'=0",
                "0," + made + ",6,1", "");
    }

    private static void ops() {
        op('+', "MAX", "1", "MIN");
        op('+', "MIN", "-1", "MAX");
        op('+', "MIN", "MIN", "0");
        op('-', "MIN", "1", "MAX");
        op('-', "MAX", "-1", "MIN");
        op('-', "0", "MIN", "MIN");
        op('-', "3", "5", "-2");
        op('*', "MAX", "MAX", "1");
        op('*', "MIN", "-1", "MIN");
        op('*', "65536", "65536", "0");
        op('*', "65536", "32768", "MIN");
        op('<', "MIN", "MAX", "1");
        op('<', "MAX", "MIN", "0");
        op('<', "5", "5", "0");
        op('<', "-1", "0", "1");
        op('<', "1", "0", "0");
        for (String c : new String[] {"1", "-1", "MIN", "MAX", "256"}) {
            ran("?: the second E, if v isn't 0: " + c, "value(0," + c + ") '?(a,5,6)'=0", "0,5,5,1", "");
        }
        ran("?: on the third, if it is", "'?(a,5,6)'=0", "0,6,5,1", "");
        ran("?: 0 by a wrap", "value(0,65536) '?(*(a,a),5,6)'=0", "0,6,9,2", "");
        ran("?: only one of the two", "'?(1,!(5),!(6))'=0", "0,5,7,1", "5");
    }

    private static void kinds() {
        for (char op : "+-*<".toCharArray()) {
            ran("op: if the one kept is no NUMBER: KIND, behind the second", "'" + op + "(@a(a),!(1))'=0", "2,NO,8,2", "1");
            ran("op: if v is no NUMBER: KIND", "'" + op + "(!(1),@a(a))'=0", "2,NO,8,2", "1");
            ran("op: both are none", "'@b(" + op + "(b,b))'=0", "2,NO,6,1", "");
        }
        ran("?: v is no NUMBER: KIND", "'?(@a(a),!(1),!(2))'=0", "2,NO,4,1", "");
        ran("!: v is no NUMBER: KIND, nothing is WRITTEN", "'[!(1),!(@a(a))]'=0", "2,NO,10,2", "1");
        holds(":x: v is no NUMBER: KIND, VALUE stays", "value(1,8) ':b(@a(a))'=0 run(0)=2 STOOD=2,NO,4,1 told(11)=8");
        ran("^: if x is no ESCAPE: KIND, ahead of its E", "'^a(!(1))'=0", "2,NO,1,0", "");
        ran("^: as a letter gives it: bound to a NUMBER", "'@a(=a(1,^a(2)))'=0", "2,NO,5,1", "");
        ran("^: as a letter gives it: its VALUE is never an ESCAPE", "'@b(F(b))'=0 '^b(1)'=1 define(0,1)", "2,NO,5,1", "");
        ran("=, [, F, % take an ESCAPE", "'=a(@b(b),[a,%(a,F(a),a)])'=0 'a'=1 define(0,1)", "0,NO,19,2", "");
        ran("F: it has no LINE: LOST, behind its E", "'F(!(1))'=0", "3,NO,5,2", "1");
        ran("KIND is ahead of LOST", "'F(^a(1))'=0", "2,NO,2,1", "");
        ran("LOST by an ESCAPE, too", "'G(@a(a))'=0", "3,NO,4,1", "");
    }

    private static void written() {
        String six = "'[F(1),F(2),F(3),F(4),[F(5),F(6)]]'=0 ";
        String thirtyFive = "1,1,1,1,1,1,1,2,2,2,2,2,2,2,3,3,3,3,3,3,3,4,4,4,4,4,4,4,5,5,5,5,5,5,5";
        ran("OUT has 40 at most, others are left out", six + "'!(!(!(!(!(!(!(a)))))))'=1 define(0,1)",
                "0,6,121,8", thirtyFive + ",6,6,6,6,6");
        ran("OUT has 40, none is left out", "'[F(1),F(2),F(3),F(4),[F(5),!(!(!(!(!(6)))))]]'=0 '!(!(!(!(!(!(!(a)))))))'=1"
                + " define(0,1)", "0,6,114,8", thirtyFive + ",6,6,6,6,6");
        ran("OUT has 39", "'[F(1),F(2),F(3),F(4),[F(5),!(!(!(!(6))))]]'=0 '!(!(!(!(!(!(!(a)))))))'=1"
                + " define(0,1)", "0,6,112,8", thirtyFive + ",6,6,6,6");
        ran("beyond 40 an ESCAPE is KIND, too", "'[F(1),F(2),F(3),F(4),[F(5),F(6),!(@a(a))]]'=0 '!(!(!(!(!(!(!(a)))))))'=1"
                + " define(0,1)", "2,NO,126,8", thirtyFive + ",6,6,6,6,6");
        ran("!: it gives v", "'+(!(3),!(-(0,4)))'=0", "0,-1,14,3", "3,-4");
        holds(":x: VALUE of x is v; it gives v", "'+(:c(3),c)'=0 run(0)=0 STOOD=0,6,8,2 told(12)=3");
        holds(":x is a VALUE, no binding", "'=c(1,[:c(2),c])'=0 run(0)=0 told(1)=1 told(12)=2");
    }

    private static void winders() {
        ran("%: it gives the one kept", "'%(!(1),!(2),!(3))'=0", "0,2,14,2", "1,2,3");
        ran("B, E, A in the SCOPE of %", "'=a(2,%(=a(3,!(a)),=a(4,!(a)),!(a)))'=0", "0,4,23,2", "3,4,2");
        ran("an escape within E leaves no WINDER", "'%(!(1),@a(+(1,^a(5))),!(3))'=0", "0,5,18,3", "1,3");
        ran("WINDERS are the very ones: CHAIN is the one that it keeps", "'%(!(1),+(1,@a(+(2,^a(5)))),!(3))'=0",
                "0,6,22,4", "1,3");
        ran("the latest WINDER goes, then the one ahead", "'@d(%(!(1),%(!(2),^d(9),!(3)),!(4)))'=0", "0,9,23,3", "1,2,3,4");
        ran("in B of a % its WINDER isn't there yet", "'@d(%(^d(9),2,!(3)))'=0", "0,9,6,2", "");
        ran("in A of a % its WINDER has gone", "'@d(%(1,2,[!(3),^d(9)]))'=0", "0,9,16,3", "3");
        ran("at work on A in its SCOPE", "'@c(=a(2,%(!(a),=a(3,^c(9)),!(a))))'=0", "0,9,20,2", "2,2");
        ran("Behind A it GOES on, with v, not with what A gives", "'@d(%(1,^d(9),8))'=0", "0,9,10,2", "");
        ran("from A on the way to another: the later one", "'@a(%(1,%(1,^a(5),^a(6)),!(7)))'=0", "0,6,18,3", "7");
        ran("a ^ within a ^: the inner one goes, the outer one is left", "'@a(+(1,@b(+(2,^a(^b(5))))))'=0", "0,6,14,4", "");
    }

    private static void comingIn() {
        ran("those that it keeps go on from WINDERS: coming in", "'=a(%(!(1),@b(b),!(2)),?(<(c,1),^a(:c(1)),a))'=0",
                "0,1,45,3", "1,2,1,2");
        ran("one in common, one to leave", "'%(!(1),=a(@b(b),?(<(c,1),%(!(2),^a(:c(5)),!(3)),!(a))),!(4))'=0",
                "0,5,47,4", "1,2,3,5,4");
        ran("one in common, one to come into", "'%(!(1),=a(%(!(2),@b(b),!(3)),?(<(c,1),^a(:c(5)),!(a))),!(4))'=0",
                "0,5,57,4", "1,2,3,2,3,5,4");
        ran("one in common, one to leave, one to come into",
                "'%(!(1),=a(%(!(2),@b(b),!(3)),?(<(c,1),%(!(6),^a(:c(5)),!(7)),!(a))),!(4))'=0",
                "0,5,66,4", "1,2,3,6,7,2,3,5,4");
        ran("none in common: all are left, then all come into, the first one first",
                "'=a(%(!(1),%(!(2),@b(b),!(3)),!(4)),?(<(c,1),%(!(6),^a(:c(7)),!(8)),a))'=0",
                "0,7,73,4", "1,2,3,4,6,8,1,2,3,4");
        ran("the very ones: not another WINDER of the same %", "'=b(F(0),[:c(1),F(b)])'=0 '%(!(1),?(c,^a(7),@b(b)),!(2))'=1"
                + " define(0,1)", "2,NO,72,3", "1,2,1,2,1,2,1");
        ran("five are left, the latest one first",
                "'@d(%(1,%(2,%(3,%(4,%(5,^d(9),!(5)),!(4)),!(3)),!(2)),!(1)))'=0", "0,9,40,6", "5,4,3,2,1");
        ran("B on the way has a % of its own", "'=a(%(%(!(1),0,!(2)),@b(b),!(3)),?(<(c,1),^a(:c(5)),a))'=0",
                "0,5,61,4", "1,2,3,1,2,3");
        ran("B on the way goes elsewhere", "'@d(=a(%([!(1),?(c,^d(6),0)],@b(b),!(2)),[:c(1),^a(3)]))'=0",
                "0,6,44,4", "1,2,1");
        ran("A on the way goes elsewhere: the WINDER has gone", "'@a(@b(%(1,%(1,^a(5),[!(2),^b(6)]),!(3))))'=0",
                "0,6,25,3", "2,3");
        ran("Behind B it GOES on, with v, not with what B gives", "'=a(%(8,@b(b),9),?(c,a,^a(:c(5))))'=0", "0,5,29,2", "");
        ran("gone to again and again", "'=a(@b(b),?(<(:c(+(c,1)),4),^a(a),c))'=0", "0,4,70,4", "");
        ran("come into each time", "'=a(%(!(1),@b(b),!(2)),?(<(:c(+(c,1)),3),^a(a),c))'=0", "0,3,81,4", "1,2,1,2,1,2");
        ran("an ESCAPE goes with an ESCAPE", "'=a(@b(b),?(c,7,=d(@b(b),[:c(1),^a(d)])))'=0", "0,7,26,2", "");
        ran("an ESCAPE caught in A on the way", "'@a(%(1,^a(5),!(@b(+(1,^b(2))))))'=0", "0,5,18,4", "2");
    }

    private static void deep(String x, String stood, String out) {
        ran("DEEP: a FRAME would come, and CHAIN has 40: " + x, DEEP.replace("X", "+(0,+(0," + x + "))"), stood, out);
    }

    private static void notDeep(String x, String stood, String out) {
        ran("with 39 a FRAME comes: " + x, DEEP.replace("X", "+(0," + x + ")"), stood, out);
    }

    private static void deep() {
        for (String x : new String[] {"+(1,2)", "-(1,2)", "*(1,2)", "<(1,2)", "?(1,2,3)", "=a(1,2)", "[1,2]", "F(1)", "!(1)",
            ":a(1)", "%(1,2,3)"}) {
            deep(x, "4,NO,213,40", "");
        }
        deep("@c(^c(1))", "4,NO,214,40", "");
        deep("[!(1)]", "4,NO,214,40", "");
        deep("^c(1)", "2,NO,213,40", "");
        deep("1", "0,1,254,40", "");
        deep("a", "0,0,254,40", "");
        deep("[1]", "0,1,255,40", "");
        deep("@c(1)", "0,1,255,40", "");
        notDeep("+(1,2)", "0,3,254,40", "");
        notDeep("?(1,2,3)", "0,2,253,40", "");
        notDeep("=a(1,2)", "0,2,253,40", "");
        notDeep("[1,2]", "0,2,254,40", "");
        notDeep("F(0)", "4,NO,222,40", "");
        notDeep("!(1)", "0,1,252,40", "1");
        notDeep(":a(1)", "0,1,252,40", "");
        notDeep("%(1,2,3)", "0,2,256,40", "");
        notDeep("@c(^c(1))", "0,1,253,40", "");
        notDeep("!(!(1))", "4,NO,211,40", "");
        holds("functions whose last calls take no more frames", "'F(9)'=0 '?(a,[0,=b(0,@c([F(-(a,1))]))],0)'=1",
                "'F(13)'=2 '?(a,F(-(a,1)),0)'=3 '?(a,+(0,F(-(a,1))),0)'=4 define(0,1) on(0,3)=2 define(0,3) on(0,3)=2",
                "on(2,3)=2 define(0,4) on(2,3)=15");
    }

    private static void down(String sentence, String line, String x, String stood) {
        ran(sentence, "'" + line + "'=0 '" + DOWN.replace("X", x) + "'=1 define(0,1) ", stood, "");
    }

    private static void fuel() {
        ran("FUEL: 300 STEPS were made, and it isn't OVER", "'F(0)'=0 define(0,0)", "8,NO,300,1", "");
        down("299 STEPS, OVER by the last", "[F(29)]", "0", "0,0,299,2");
        down("300 STEPS, OVER by the last", "[[F(29)]]", "0", "0,0,300,2");
        down("300 STEPS, OVER by one more", "[[[F(29)]]]", "0", "8,NO,300,2");
        down("300 STEPS, KIND by the last", "[[[F(29)]]]", "^d(0)", "2,NO,300,2");
        down("300 STEPS, KIND by one more", "[[[[F(29)]]]]", "^d(0)", "8,NO,300,2");
        down("300 STEPS, LOST by the last", "[F(29)]", "H(0)", "3,NO,300,2");
        down("300 STEPS, LOST by one more", "[[F(29)]]", "H(0)", "8,NO,300,2");
        String line = "'[[[+(0,0),[0],0,0,[0,0,0,0,[0,0,0,0,[0,0,0,0,F(0)]]]]]]'=0 '+(1,F(a))'=1 define(0,1)";
        ran("300 STEPS, DEEP by the last", line, "4,NO,300,40", "");
        ran("300 STEPS, DEEP by one more", line.replace("[0],0,0,", "[0],[0],0,"), "8,NO,300,40", "");
        ran("as many SCOPES as there may be", "'F(0)'=0 '@b(@b(@b(@b([!(a),F(+(a,1))]))))'=1 define(0,1)", "8,NO,300,2",
                "0,1,2,3,4,5,6,7,8,9,10,11,12,13,14,15,16,17");
        holds("FUEL is no STEP: 300 are told, 300 are counted", "'F(0)'=0 define(0,0) begin(0) step(150)=150 step(149)=149",
                "STOOD=-5,NO,299,1 step(5)=1 STOOD=8,NO,300,1 AT=NO step(0)=STATE step(1)=STATE told(2)=300");
        holds("A STEP by which it stands is counted", "'7'=0 '^a(1)'=1 'F(1)'=2 run(0)=0 told(2)=2 run(1)=2 told(2)=1",
                "run(2)=3 told(2)=3");
    }

    private static void promise10() {
        String lines = "'[!(5),!(6),7]'=0 '[:d(4),@a(a)]'=1 ";
        holds("NO: there is no such", lines, "run(0) told(-1)=NO told(9)=NO told(14..19)=NO told(23..39)=NO told(42)=NO",
                "told(80)=NO told(MAX)=NO told(MIN)=NO told(40..41)=5,6");
        holds("NO: there is no such, while it runs", lines, "begin(0) told(-1)=NO told(9)=NO told(14..19)=NO",
                "told(23..40)=NO step(3) told(4)=0 step(1) told(4)=1 told(40..41)=5,NO");
        holds("5 to 8 only while it runs", lines, "AT=NO begin(0) AT=0,0,0,-5 step(1) AT=1,0,0,3 run(0) AT=NO",
                "begin(1) AT=0,0,0,-5");
        holds("RESULT: NO: an ESCAPE", lines, "run(1)=0 STOOD=0,NO,9,2 told(13)=4");
        holds("RESULT: NO: STATUS isn't 0", lines, "run(0) told(1)=7 begin(0) told(1)=NO step(12) told(7)=1 told(1)=NO",
                "step(1)=1 told(1)=7");
        holds("n VALUE of NAME n, now", lines, "value(0..3,8) begin(1) told(13)=8 step(4)=4 told(13)=4 value(3,1)=4 told(13)=1");
        holds("f the LINE of FUNCTION f, now (-5: none)", lines, "define(0,1) define(2,0) told(20..22)=1,-5,0 define(0,-1)",
                "told(20..22)=-5,-5,0");
        holds("a VALUE, while it runs, as it is at that STEP", "'+(b,b)'=0 begin(0) step(2) value(1,9) step(300)=4 told(1)=9");
        holds("a FUNCTION, while it runs, as it is at that STEP", "'F(1)'=0 '5'=1 '6'=2 define(0,1) begin(0) step(2)",
                "define(0,2) step(300)=3 told(1)=6 begin(0) step(2) define(0,-1) step(9)=1 told(0)=3");
        holds("OUT's number at k", "value(0,MIN) '[!(a),!(0)]'=0 run(0) OUT=MIN,0");
    }

    public static void main(String[] args) {
        promise7();
        promise8();
        promise9();
        stepsAtWork();
        things();
        ops();
        kinds();
        written();
        winders();
        comingIn();
        deep();
        fuel();
        promise10();
        due.end("MachineEdgesTest");
    }
}
