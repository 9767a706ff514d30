import java.util.ArrayList;
import java.util.List;

/** Each sentence on judging, THE IMAGE and TAPES that names an edge, by its own words: promises 21 to 28; and refusals. */
public final class KeptEdgesTest {
    private static final Due due = new Due();
    private static final String[] BEYOND_TAPES = {"-1", "6", "MAX", "MIN"};

    private static void holds(String sentence, String... calls) {
        Play.holds(due, sentence, calls);
    }

    private static void promise21() {
        String lines = "'[!(5),!(6),7]'=0 '7'=1 ";
        String row = "tape(0,2,5) item(0,1,5) item(0,2,6) item(0,4,5) ";
        holds("-5: none is otherwise", lines, row, "run(0) judge(0,1)=-5");
        holds("the first that is otherwise (counted from 0 from that place on)", lines, row,
                "run(0) judge(0,0)=0 judge(0,2)=0 item(0,2,7) judge(0,1)=1 item(0,1,7) judge(0,1)=0");
        holds("100 and how many were looked at, if the row ends ahead of that", lines, row, "run(0) judge(0,4)=101",
                "judge(0,5)=100 judge(0,6)=100 judge(0,60)=100 judge(0,MAX)=100");
        holds("what is otherwise is ahead of the end", lines, row, "run(0) item(0,4,6) judge(0,4)=0");
        holds("the place is below 0", lines, row, "run(0) judge(0,-1)=100 judge(0,-2)=100 judge(0,MIN)=100");
        holds("a row of none", lines, "tape(0,2,0) run(0) judge(0,0)=100 judge(0,-1)=100 judge(0,1)=100 run(1) judge(0,0)=-5");
        holds("the TAPE holds nothing", lines, "run(0) judge(0..5,0)=100 judge(0,-1)=100 judge(0,MAX)=100 tape(0,0,9)",
                "tape(0,-1,0) judge(0,0)=100");
        holds("the row ends with OUT", lines, "tape(5,2,2) item(5,0,5) item(5,1,6) run(0) judge(5,0)=-5 judge(5,1)=0 tape(5,2,1)",
                "item(5,0,5) judge(5,0)=101");
        holds("-5: OUT is empty: there was no RUN", row, "judge(0,0)=-5 judge(0,-1)=-5 judge(0,9)=-5 judge(1,0)=-5");
        holds("-5: OUT is empty (wherever the place is, also if the TAPE holds nothing)", lines, row,
                "run(0) run(1) judge(0,0)=-5 judge(0,-1)=-5 judge(0,5)=-5 judge(0,MAX)=-5 judge(0,MIN)=-5 judge(1,0)=-5 judge(1,-1)=-5");
        holds("-5: OUT is empty, at a RUN's begin", lines, row, "run(0) judge(0,0)=0 begin(0) judge(0,0)=-5 step(3) judge(0,0)=-5",
                "step(1) judge(0,0)=0 judge(0,1)=-5 judge(0,4)=-5");
        for (String tape : BEYOND_TAPES) {
            holds("NONE: tape " + tape, lines, "judge(" + tape + ",0)=NONE run(0) judge(" + tape + ",0)=NONE");
        }
        for (int sort : new int[] {0, 1, 3, 4}) {
            holds("CAST: it is no row of ints: " + sort, lines, "tape(0," + sort + ",3) judge(0,0)=CAST run(0) judge(0,0)=CAST",
                    "judge(0,-1)=CAST judge(0,9)=CAST tape(0," + sort + ",0) judge(0,0)=CAST");
        }
        String six = "'[F(1),F(2),F(3),F(4),[F(5),F(6)]]'=0 '!(!(!(!(!(!(!(a)))))))'=1 define(0,1) run(0) tape(0,2,41) ";
        for (int k = 0; k < 40; k++) {
            six += "item(0," + (k + 1) + "," + (k / 7 + 1) + ") ";
        }
        holds("one by one, 40", six, "judge(0,1)=-5 item(0,40,7) judge(0,1)=39 judge(0,0)=0 item(0,0,1) judge(0,0)=7");
        holds("the least and the greatest", "'[!(a),!(b)]'=0 value(0,MIN) value(1,MAX) run(0) tape(0,2,2) item(0,0,MIN) judge(0,0)=1",
                "item(0,1,MAX) judge(0,0)=-5 item(0,1,MIN) judge(0,0)=1");
    }

    private static void promise22and23() {
        holds("STATE: there is none", "undo()=STATE '1'=0 run(0) undo()=STATE told(0)=0 image()=1 undo()=1");
        holds("how many LINES there are", "image()=0 '1'=0 image()=1 '2'=1 undo()=2 image()=2");
        holds("LINES stay", "'1'=0 image()=1 '2'=1 undo()=2 count(0)=2 on(1,1)=2 '3'=2 undo()=3 on(0..2,1)=1,2,3");
        holds("THE TEXT stays", "feed(49) image() feed(50)=2 undo()=0 count(4)=2 line()=0 on(0,1)=12 undo()=1 count(4)=0");
        holds("TAPES stay", "tape(0,2,2) item(0,1,7) image() item(0,1,8) tape(1,0,1) undo() read(0,1)=8 read(1,0)=0");
        holds("VALUES", "value(0..3,5) image() value(0..3,6) undo() told(10..13)=5");
        holds("FUNCTIONS", "'1'=0 '2'=1 define(0,0) define(2,1) image() define(0,1) define(1,1) define(2,-1) undo()",
                "told(20..22)=0,-5,1");
        holds("SEEN", "'!(a)'=0 see(0,3) image() see(-1,0) see(0,4) see(0,4) undo() count(1)=1 fits(0,0,0..1)=1,3");
        holds("the PLAN", "'7'=0 value(0..1,5) plan(1,0) image() plan(-1,0) plan(1,1) plan(1,1) undo() count(2)=1 ends(0..1)=0,5");
        holds("the BOOK", "book(0,0) image() book(-1,0) book(0,1) book(1,1) undo() count(3)=1 looked()=-5");
        holds("SEEN, other places", "'[!(a),!(2),!(3)]'=0 see(0,3) see(1,2) image() see(-1,0) see(2,3) see(2,3) undo() fits(0,0,0..1)=1,3");
        holds("the PLAN, others", "':a(5)'=0 plan(0,0) plan(1,1) value(1,9) image() plan(-1,0) plan(1,0) plan(2,0) undo() ends(0..1)=5,0");
        holds("the BOOK, others", "book(0,0) book(1,7) image() book(-1,0) book(2,0) book(3,0) undo() looked()=1 value(1,7) looked()=-5",
                "value(0,1) looked()=0");
        holds("a full row of each", "'7'=0 5*see(0,3) 10*plan(1,1) 8*book(1,0) image() see(-1,0) plan(-1,0) book(-1,0) undo()",
                "count(1..3)=5,10,8 see(0,0)=FULL plan(1,1)=FULL book(1,1)=FULL");
        holds("the RUN: there was none", "'!(1)'=0 image() run(0) undo() told(0)=-9 told(1)=NO OUT= AT=NO step(1)=STATE");
        holds("the RUN: it runs", "'[!(5),!(6),7]'=0 begin(0) step(4) image() run(0) undo() STOOD=-5,NO,4,2 OUT=5 AT=1,0,1,3",
                "step(300)=9 OUT=5,6 STOOD=0,7,13,2");
        holds("the RUN: it stands", "'[!(5),!(6),7]'=0 '^a(1)'=1 run(0) image() run(1) undo() STOOD=0,7,13,2 OUT=5,6 step(1)=STATE",
                "run(1) image() run(0) undo() STOOD=2,NO,1,0 OUT=");
        holds("THE IMAGE stays, by undo() too", "value(0,5) image() value(0,6) undo() value(0,7) undo() told(10)=5");
        holds("what comes behind undo() is not in THE IMAGE", "'!(1)'=0 value(0,5) book(0,5) see(0,0) plan(1,0) image() undo() value(0,6)",
                "book(1,1) see(0,1) plan(1,1) run(0) undo() told(10)=5 count(1..3)=1 OUT= told(0)=-9");
        holds("the latest IMAGE", "value(0,5) image() value(0,6) image() value(0,7) undo() told(10)=6");
        holds("what is asked leaves THE IMAGE", "'[:a(5),!(a)]'=0 begin(0) step(3) image() on(0,0) fits(0,0,0) alike(0,0) odds(0,0,0)",
                "mean(0,0) plan(0,0) ends(0)=5 undo() told(10)=0 STOOD=-5,NO,3,2 step(300)=7 OUT=5");
    }

    /** LINE 0 at each of its STEPS: THE IMAGE is taken, LINE 1 is RUN, undo(): LINE 0 goes on as if none had come between. */
    private static void imageAt(String sentence, String lines, int steps, String stood, String out) {
        for (int n = 0; n < steps; n++) {
            holds(sentence + ", at STEP " + n, lines, "begin(0) step(" + n + ")=" + n + " image() run(1) undo() told(0)=-5",
                    "told(2)=" + n + " step(300)=" + (steps - n) + " STOOD=" + stood + " OUT=" + out,
                    "undo() told(2)=" + n + " run(1) undo() step(300)=" + (steps - n) + " STOOD=" + stood + " OUT=" + out);
        }
    }

    private static void imageAtEachStep() {
        String flat = "'[%(1,2,3),%(1,2,3),%(1,2,3),%(1,2,3),[1,2,3,4,5]]'=1 ";
        String deep = "'@a(=b(1,+(%(1,+(2,%(3,+(4,5),6)),7),^a(b))))'=1 ";
        String small = "'7'=1 ";
        for (String other : new String[] {flat, deep, small}) {
            imageAt("WINDERS in one another", "'@d(%(!(1),%(!(2),^d(9),!(3)),!(4)))'=0 " + other, 23, "0,9,23,3", "1,2,3,4");
            imageAt("come into again", "'=a(%(!(1),%(!(2),@b(b),!(3)),!(4)),?(<(c,1),%(!(6),^a(:c(7)),!(8)),a))'=0 " + other,
                    73, "0,7,73,4", "1,2,3,4,6,8,1,2,3,4");
            imageAt("WINDERS that come behind undo()",
                    "'=a(%(!(1),@b(b),!(2)),[%(!(3),5,!(4)),?(<(c,2),^a(:c(2)),!(a))])'=0 " + other,
                    75, "0,2,75,3", "1,2,3,4,1,2,3,4,2");
            imageAt("two ESCAPES, to the later", "'@a(+(1,@b(+(10,!(^b(2))))))'=0 " + other, 14, "0,3,14,4", "");
            imageAt("two ESCAPES, to the first", "'@a(+(1,@b(+(10,!(^a(2))))))'=0 " + other, 13, "0,2,13,4", "");
            imageAt("SCOPES in one another", "'=a(1,=b(2,=c(3,[!(a),!(b),!(c),!(d),+(a,+(b,c))])))'=0 " + other,
                    40, "0,6,40,2", "1,2,3,0");
            imageAt("SCOPES that come behind undo()", "'=a(1,[=b(2,b),!(b)])'=0 " + other, 14, "0,0,14,2", "0");
            imageAt("the SCOPE of a WINDER", "'@b(=a(5,%(0,^b(1),!(a))))'=0 " + other, 15, "0,1,15,2", "5");
            imageAt("kept THINGS", "'*(2,+(3,-(!(9),%(4,5,6))))'=0 " + other, 22, "0,14,22,4", "9");
        }
    }

    private static void promise24() {
        holds("How many", "'1'=0 '2'=1 '3'=2 '4'=3 '5'=4 4*see(0,0) 3*plan(1,0) 2*book(0,0) feed(49) count(0..4)=5,4,3,2,1");
        holds("BAD", "count(-1)=BAD count(5)=BAD count(MAX)=BAD count(MIN)=BAD");
    }

    private static void promise25() {
        for (int sort = 0; sort <= 4; sort++) {
            String t = "tape(" + sort + "," + sort + ",";
            String r = "read(" + sort + ",";
            holds("a row of n (0 .. 60), sort " + sort, t + "60)=1 " + r + "0..59)=0 " + r + "60)=NO " + t + "0)=1 " + r + "0)=NO",
                    "item(" + sort + ",0,1)=PLACE " + t + "1)=1 " + r + "0..1)=0,NO");
            holds("all 0, sort " + sort, t + "3) item(" + sort + ",0..2,1) " + r + "0..2)=1 " + t + "4)=1 " + r + "0..4)=0,0,0,0,NO",
                    "item(" + sort + ",0..3,1) " + t + "2)=1 " + r + "0..2)=0,0,NO " + t + "4)=1 " + r + "2..3)=0");
            holds("BAD: n above 60, sort " + sort, t + "2) " + t + "61)=BAD " + t + "MAX)=BAD " + r + "1..2)=0,NO");
            holds("SIZE: below 0, sort " + sort, t + "2) " + t + "-1)=SIZE " + t + "MIN)=SIZE " + r + "1..2)=0,NO");
            holds("or holds nothing (sort -1: n does not matter), behind sort " + sort, t + "2) tape(" + sort + ",-1,MIN)=1 " + r + "0)=NO",
                    "item(" + sort + ",0,1)=NOTHING " + t + "2) tape(" + sort + ",-1,61)=1 " + r + "0)=NO");
        }
        holds("another sort, all 0", "tape(0,3,2) item(0,0..1,9) tape(0,0,2)=1 read(0,0..2)=0,0,NO item(0,0,300) read(0,0)=44");
        for (String sort : new String[] {"-2", "5", "MAX", "MIN"}) {
            holds("BAD: sort " + sort, "tape(0,2,2) tape(0," + sort + ",3)=BAD tape(0," + sort + ",-1)=BAD tape(0," + sort + ",61)=BAD",
                    "read(0,1..2)=0,NO");
        }
        for (String tape : BEYOND_TAPES) {
            holds("NONE: tape " + tape, "tape(" + tape + ",2,3)=NONE tape(" + tape + ",9,99)=NONE tape(" + tape + ",2,-1)=NONE tape("
                    + tape + ",-1,0)=NONE read(0..5,0)=NO");
        }
        holds("TAPES 0 .. 5, each its own", "tape(0..5,2,2)=1 item(0..5,1,7)=1 item(3,1,8)=1 read(0..5,1)=7,7,7,8,7,7");
    }

    private static void promise26and27() {
        holds("v's lowest bits, bytes", "tape(0,0,2) item(0,1,127) read(0,1)=127 item(0,1,128) read(0,1)=-128 item(0,1,255) read(0,1)=-1",
                "item(0,1,256) read(0,1)=0 item(0,1,-129) read(0,1)=127 item(0,1,MAXLONG) read(0,1)=-1 item(0,1,NO) read(0,1)=0");
        holds("v's lowest bits, shorts", "tape(0,1,2) item(0,1,32767) read(0,1)=32767 item(0,1,32768) read(0,1)=-32768",
                "item(0,1,65536) read(0,1)=0 item(0,1,-32769) read(0,1)=32767 item(0,1,MAXLONG) read(0,1)=-1");
        holds("v's lowest bits, ints", "tape(0,2,2) item(0,1,MAX) read(0,1)=MAX item(0,1,2147483648) read(0,1)=MIN",
                "item(0,1,4294967296) read(0,1)=0 item(0,1,MAXLONG) read(0,1)=-1 item(0,1,NO) read(0,1)=0");
        holds("v's lowest bits, longs", "tape(0,3,2) item(0,1,MAXLONG) read(0,1)=MAXLONG item(0,1,NO) read(0,1)=NO",
                "item(0,1,4294967296) read(0,1)=4294967296");
        holds("booleans: whether v is not 0", "tape(0,4,2) item(0,1,1) read(0,1)=1 item(0,1,0) read(0,1)=0 item(0,1,-1) read(0,1)=1",
                "item(0,1,0) item(0,1,256) read(0,1)=1 item(0,1,0) item(0,1,4294967296) read(0,1)=1 item(0,1,0) item(0,1,NO) read(0,1)=1");
        for (int sort = 0; sort <= 4; sort++) {
            holds("PLACE; NO: no such place, sort " + sort, "tape(0," + sort + ",3) item(0,0..2,1)=1 item(0,-1,1)=PLACE item(0,3,1)=PLACE",
                    "item(0,60,1)=PLACE item(0,MAX,1)=PLACE item(0,MIN,1)=PLACE read(0,-1)=NO read(0,3)=NO read(0,60)=NO read(0,MAX)=NO",
                    "read(0,MIN)=NO read(0,0..2)=1");
        }
        holds("the last of 60", "tape(0,3,60) item(0,59,7)=1 item(0,60,7)=PLACE read(0,58..60)=0,7,NO");
        holds("NOTHING: nothing is there, whatever the place", "item(0,0,1)=NOTHING item(0,-1,1)=NOTHING item(0,99,1)=NOTHING read(0,0)=NO");
        for (String tape : BEYOND_TAPES) {
            holds("NONE; NO: no such TAPE " + tape, "tape(0..5,2,1) item(" + tape + ",0,1)=NONE item(" + tape + ",-1,1)=NONE read(" + tape
                    + ",0)=NO read(0..5,0)=0");
        }
    }

    private static void promise28() {
        String rows = "tape(0,2,5) tape(1,2,3) item(0,0,1) item(0,1,2) item(0,2,3) item(0,3,4) item(0,4,5) ";
        holds("to the same, as they all were before: up", rows, "shift(0,0,0,1,4)=4 read(0,0..4)=1,1,2,3,4");
        holds("to the same, as they all were before: down", rows, "shift(0,1,0,0,4)=4 read(0,0..4)=2,3,4,5,5");
        holds("to the same place", rows, "shift(0,0,0,0,5)=5 read(0,0..4)=1,2,3,4,5");
        holds("to another one", rows, "shift(0,2,1,0,3)=3 read(1,0..2)=3,4,5 read(0,0..4)=1,2,3,4,5 shift(0,0,1,2,1)=1 read(1,0..2)=3,4,1");
        holds("0 items", rows, "shift(0,0,1,0,0)=0 shift(0,5,1,3,0)=0 shift(0,5,0,5,0)=0 read(1,0..2)=0");
        holds("PLACE: n is below 0", rows, "shift(0,0,1,0,-1)=PLACE shift(0,5,1,3,-1)=PLACE shift(0,2,1,2,MIN)=PLACE");
        holds("PLACE: i is below 0", rows, "shift(0,-1,1,0,1)=PLACE shift(0,-1,1,0,0)=PLACE shift(0,MIN,1,0,1)=PLACE");
        holds("PLACE: j is below 0", rows, "shift(0,0,1,-1,1)=PLACE shift(0,0,1,-1,0)=PLACE shift(0,0,1,MIN,1)=PLACE");
        holds("PLACE: beyond the one's end", rows, "shift(0,3,1,0,3)=PLACE shift(0,5,1,0,1)=PLACE shift(0,6,1,0,0)=PLACE",
                "shift(0,MAX,1,0,1)=PLACE shift(0,MAX,1,0,0)=PLACE shift(0,1,1,0,MAX)=PLACE read(1,0..2)=0");
        holds("PLACE: beyond the other's end", rows, "shift(0,0,1,0,4)=PLACE shift(0,0,1,1,3)=PLACE shift(0,0,1,3,1)=PLACE",
                "shift(0,0,1,4,0)=PLACE shift(0,0,1,MAX,0)=PLACE shift(0,0,1,MAX,1)=PLACE shift(1,0,0,MAX,3)=PLACE read(1,0..2)=0");
        holds("NONE: tapes", rows, "shift(-1,0,0,0,0)=NONE shift(6,0,0,0,0)=NONE shift(0,0,-1,0,0)=NONE shift(0,0,6,0,0)=NONE",
                "shift(MAX,0,0,0,0)=NONE shift(0,0,MIN,0,0)=NONE");
        holds("NONE is named ahead of NOTHING", rows, "shift(6,0,5,0,0)=NONE shift(5,0,6,0,0)=NONE shift(6,-1,6,-1,-1)=NONE");
        holds("NOTHING", rows, "shift(0,0,5,0,0)=NOTHING shift(5,0,0,0,0)=NOTHING shift(5,0,5,0,0)=NOTHING shift(5,0,4,0,0)=NOTHING");
        holds("NOTHING is named ahead of PLACE", rows, "shift(0,-1,5,0,0)=NOTHING shift(5,0,0,9,1)=NOTHING shift(5,0,5,0,-1)=NOTHING");
        String[] sorts = {"tape(0,0,2)", "tape(1,1,2)", "tape(2,2,2)", "tape(3,3,2)", "tape(4,4,2)"};
        for (int from = 0; from < 5; from++) {
            for (int to = 0; to < 5; to++) {
                String want = from == to ? "2" : "CAST";
                holds("CAST: of unlike sorts: " + from + " to " + to, String.join(" ", sorts), "item(0..4,0..1,1)",
                        "shift(" + from + ",0," + to + ",0,2)=" + want + " read(0..4,0..1)=1");
            }
        }
        holds("CAST is named ahead of PLACE", rows, "tape(2,3,5) shift(0,-1,2,0,0)=CAST shift(0,0,2,0,-1)=CAST shift(0,0,2,9,1)=CAST");
        holds("CAST, of 0 items", rows, "tape(2,3,5) shift(0,0,2,0,0)=CAST");
        holds("rows of 60", "tape(0,3,60) tape(1,3,60) item(0,59,7) item(0,0,6) shift(0,0,1,0,60)=60 read(1,0)=6 read(1,59)=7",
                "shift(0,0,1,0,61)=PLACE shift(0,0,1,1,60)=PLACE shift(0,59,1,59,1)=1 shift(0,59,1,59,2)=PLACE");
    }

    // ---- refusals, and what is asked, change nothing

    /** Of all that is kept, some is there, a RUN is on its way, and THE IMAGE is otherwise. */
    private static EscapeFrames rich() {
        EscapeFrames x = Due.with("=a(%(!(1),@b(b),!(2)),?(<(c,1),^a(:c(1)),!(a)))", "[:b(+(b,5)),!(b),G(1)]", "F(3)");
        x.define(0, 1);
        x.value(1, 9);
        x.see(0, 1);
        x.plan(0, 1);
        x.book(1, 9);
        x.book(2, 1);
        x.tape(0, 2, 3);
        x.item(0, 1, 1);
        x.tape(1, 0, 2);
        x.item(1, 0, 5);
        x.begin(0);
        x.step(13);
        x.image();
        x.step(10);
        x.feed('7');
        return x;
    }

    /** At each limit: 8 LINES, a full TEXT, full rows, the RUN stands, there is no IMAGE. */
    private static EscapeFrames full() {
        EscapeFrames x = Due.with("!(1)", "2", "3", "4", "5", "6", "7", "b");
        for (int i = 0; i < 100; i++) {
            x.feed('9');
        }
        for (int i = 0; i < 10; i++) {
            x.see(i, 3);
            x.plan(1, 1);
            x.book(2, 0);
        }
        x.run(0);
        return x;
    }

    private static List<Long> look(EscapeFrames x) {
        List<Long> seen = new ArrayList<>();
        for (int round = 0; round < 3; round++) {
            for (int what = 0; what < 50; what++) {
                seen.add(what < 23 || what >= 40 ? x.told(what) : 0);
            }
            for (int n = 0; n < 5; n++) {
                seen.add((long) x.count(n));
                seen.add(x.ends(n));
                seen.add(x.on(n, 1));
                seen.add((long) x.judge(n, 0));
                seen.add(x.read(n, 0));
                seen.add(x.read(n, 1));
            }
            seen.add((long) x.looked());
            seen.add((long) x.fits(0, 0, 0));
            seen.add((long) (round == 0 ? x.step(300) : x.undo()));
        }
        seen.add((long) x.feed('9'));
        seen.add((long) x.line());
        return seen;
    }

    private static void changesNothing(boolean isFull, String name, int... args) throws ReflectiveOperationException {
        Class<?>[] types = new Class<?>[args.length];
        Object[] given = new Object[args.length];
        for (int i = 0; i < args.length; i++) {
            types[i] = name.equals("item") && i == 2 ? long.class : int.class;
            given[i] = types[i] == int.class ? (Object) args[i] : (Object) (long) args[i];
        }
        EscapeFrames asked = isFull ? full() : rich();
        EscapeFrames twin = isFull ? full() : rich();
        EscapeFrames.class.getMethod(name, types).invoke(asked, given);
        boolean same = look(asked).equals(look(twin));
        due.is(name + java.util.Arrays.toString(args) + " changes nothing, full: " + isFull, 1, same ? 1 : 0);
    }

    private static void refusals() throws ReflectiveOperationException {
        int[][] pairs = {{-1, 0}, {9, 0}, {-2, 0}, {0, 9}, {0, -1}, {0, -2}, {3, 9}, {Integer.MAX_VALUE, Integer.MIN_VALUE}};
        for (boolean isFull : new boolean[] {false, true}) {
            for (int[] p : pairs) {
                for (String name : new String[] {"of", "on", "alike", "mean", "read", "judge"}) {
                    changesNothing(isFull, name, p);
                }
                for (String name : new String[] {"fits", "odds"}) {
                    changesNothing(isFull, name, p[0], p[1], 0);
                    changesNothing(isFull, name, 0, p[0], p[1]);
                }
                changesNothing(isFull, "item", p[0] == 0 ? 5 : p[0], p[1], 7);
                changesNothing(isFull, "item", 1, p[0] == 0 ? 2 : p[0], 7);
                changesNothing(isFull, "shift", p[0] == 0 ? 5 : p[0], 0, 0, 0, 1);
                changesNothing(isFull, "shift", 0, p[0], 0, p[1] == 0 ? -1 : p[1], 3);
                changesNothing(isFull, "tape", p[0] == 0 ? 0 : -1, 2, 61 + Math.abs(p[1] % 100));
            }
            for (int what = -1; what < 82; what++) {
                changesNothing(isFull, "told", what);
            }
            for (int n : new int[] {-1, 0, 1, 3, 4, 8, Integer.MAX_VALUE, Integer.MIN_VALUE}) {
                changesNothing(isFull, "ends", n);
                changesNothing(isFull, "count", n);
                changesNothing(isFull, "looked");
                changesNothing(isFull, "step", n < 0 ? n : n + 301);
                changesNothing(isFull, "feed", n < 0 ? n : n + 128);
                changesNothing(isFull, "begin", n < 8 ? -1 : n);
                changesNothing(isFull, "run", n < 8 ? -1 : n);
                changesNothing(isFull, "define", n < 3 ? -1 : n, 0);
                changesNothing(isFull, "define", 0, n < 8 ? -2 : n);
                changesNothing(isFull, "value", n < 4 ? -1 : n, 77);
                changesNothing(isFull, "see", n < 4 ? -2 : 40, 77);
                changesNothing(isFull, "plan", n < 4 ? -2 : n, 0);
                changesNothing(isFull, "plan", 1, n < 4 ? -1 : n);
                changesNothing(isFull, "book", n < 4 ? -2 : n, 77);
                changesNothing(isFull, "on", Math.max(0, n & 7), 0);
                changesNothing(isFull, "alike", Math.max(0, n & 7), 1);
                changesNothing(isFull, "mean", Math.max(0, n & 7), 1);
                changesNothing(isFull, "fits", Math.max(0, n & 7), 2, 1);
                changesNothing(isFull, "odds", Math.max(0, n & 7), 1, 1);
            }
            changesNothing(isFull, "tape", 0, 5, 1);
            changesNothing(isFull, "tape", 0, 2, -1);
            changesNothing(isFull, "shift", 0, 0, 1, 0, 1);
            changesNothing(isFull, "step", 0);
        }
        changesNothing(true, "line");
        changesNothing(true, "undo");
        changesNothing(true, "feed", 9);
        changesNothing(true, "step", 1);
        changesNothing(true, "see", 1, 1);
        changesNothing(true, "plan", 1, 2);
        changesNothing(true, "book", 1, 2);
    }

    public static void main(String[] args) throws ReflectiveOperationException {
        promise21();
        promise22and23();
        imageAtEachStep();
        promise24();
        promise25();
        promise26and27();
        promise28();
        refusals();
        due.end("KeptEdgesTest");
    }
}
