/** Each sentence on what would be, plans and books that names an edge, by its own words: promises 11 to 20. */
public final class AskedEdgesTest {
    private static final Due due = new Due();
    private static final String OTHERS = "'7'=0 '@a(a)'=1 '^a(1)'=2 'F(1)'=3 'G(1)'=4 '+(1,H(1))'=5 define(1,4) define(2,5) ";
    /** LINE 0 writes 42 numbers, of which OUT has 40: 1 and VALUE of b six times, and so on to 7 and it. */
    private static final String FORTY = "'[F(1),F(2),F(3),F(4),[F(5),F(6),F(7)]]'=0 '!(!(!(!(!(!(+(a,b)))))))'=1 define(0,1) ";
    // Of three LINES.
    private static final String NOT_LINES = "-1 3 8 MAX MIN";

    private static void holds(String sentence, String... calls) {
        Play.holds(due, sentence, calls);
    }

    /** The call, with each of these at X, answers so. */
    private static String each(String numbers, String call) {
        String calls = "";
        for (String n : numbers.split(" ")) {
            calls += call.replace("X", n) + " ";
        }
        return calls;
    }

    private static void promise11() {
        holds("ON a LINE: STATUS, RESULT (NO likewise), STEPS, DEEPEST", OTHERS, "on(0,0..3)=0,7,2,0 on(1,0..3)=0,NO,3,0",
                "on(2,0..3)=2,NO,1,0 on(3,0..3)=3,NO,3,1 on(4,0..3)=8,NO,300,1 on(5,0..1)=4,NO on(5,3)=40 told(0)=-9");
        holds("were it RUN now", "'+(a,F(1))'=0 '2'=1 '3'=2 on(0,0)=3 define(0,1) on(0,1)=2 value(0,5) on(0,1)=7 define(0,2)",
                "on(0,1)=8 on(0,1)=8 define(0,-1) on(0,0)=3");
        holds("40 and k OUT's number at k", FORTY, "on(0,4)=40 on(0,40)=1 on(0,45)=1 on(0,46)=2 on(0,75)=6 on(0,76)=7",
                "on(0,79)=7 on(0,80)=NO on(0,39)=NO told(40)=NO");
        holds("NO: no such what", "'[!(1),!(2)]'=0 on(0,-1)=NO on(0,5..39)=NO on(0,40..42)=1,2,NO on(0,79..81)=NO",
                "on(0,MAX)=NO on(0,MIN)=NO");
        holds("NO: no such LINE", OTHERS, each("-1 6 8 MAX MIN", "on(X,0)=NO on(X,2)=NO on(X,40)=NO"));
        holds("and changes nothing", "'[:a(+(a,5)),!(a)]'=0 '[!(1),!(2)]'=1 begin(1) step(4) on(0,40)=5 on(0,40)=5 told(10)=0",
                "STOOD=-5,NO,4,2 OUT=1 AT=1,0,1,3 step(300)=6 OUT=1,2 STOOD=0,2,10,2");
    }

    private static void promise12() {
        holds("a place k (0 .. 39), a number", "see(0,MIN)=1 see(39,MAX)=2 see(40,0)=BAD see(-2,0)=BAD see(MAX,0)=BAD",
                "see(MIN,0)=BAD count(1)=2");
        holds("5 rows at most", "see(0,0)=1 see(0,0)=2 see(0,0)=3 see(0,0)=4 see(0,0)=5 see(0,0)=FULL count(1)=5",
                "see(39,0)=FULL count(1)=5");
        holds("BAD is named ahead of FULL", "5*see(0,0) see(40,0)=BAD see(-2,0)=BAD see(39,0)=FULL");
        holds("place -1: none then, 0, whatever the rest is", "see(-1,MAX)=0 5*see(0,0) see(-1,MIN)=0 count(1)=0 see(1,0)=1");
        holds("a sixth row is not SEEN", "'!(a)'=0 5*see(0,3) see(0,4)=FULL fits(0,0,0)=1 fits(0,0,1)=3");
        holds("what is no place is not SEEN", "'!(a)'=0 see(40,3)=BAD see(-2,3)=BAD fits(0,0,0)=20");
    }

    private static void promise13() {
        holds("how many numbers 0 .. 19: none SEEN", "'!(a)'=0 fits(0,0,0)=20 fits(0,0,1)=0");
        holds("0 is one of them", "'!(a)'=0 see(0,0) fits(0,0,0..1)=1,0");
        holds("19 is one of them", "'!(a)'=0 see(0,19) fits(0,0,0..1)=1,19");
        holds("20 is none (-5: none)", "'!(a)'=0 see(0,20) fits(0,0,0..1)=0,-5");
        holds("-1 is none (-5: none)", "'!(a)'=0 see(0,-1) fits(0,0,0..1)=0,-5");
        holds("the least of more", "'[!(<(a,5)),!(<(14,a))]'=0 see(0,0) fits(0,0,0..1)=15,5 see(1,1) fits(0,0,0..1)=5,15");
        holds("at these places: all of them", "'[!(a),!(b)]'=0 value(1,4) see(0,3) see(1,4) fits(0,0,0..1)=1,3 see(1,5)",
                "fits(0,0,0..1)=0,-5 fits(0,1,0..1)=0,-5");
        holds("two rows that tell the same", "'!(a)'=0 see(0,3) see(0,3) fits(0,0,0..1)=1,3");
        holds("OUT has none at that place", "'!(a)'=0 see(1,0) fits(0,0,0..1)=0,-5 see(-1,0) fits(0,0,0)=20");
        holds("OUT has none: it is empty", "'a'=0 see(0,0) fits(0,0,0..1)=0,-5");
        holds("the last place", FORTY, "see(39,20) fits(0,1,0..1)=1,13 see(0,14) fits(0,1,0..1)=1,13 see(1,15) fits(0,1,0)=0");
        holds("whatever STATUS it has", "'[!(a),^a(1)]'=0 '[!(a),F(1)]'=1 '[!(a),G(1)]'=2 'G(1)'=3 define(1,3) see(0,3)",
                "fits(0..2,0,1)=3 on(0..2,0)=2,3,8");
        holds("were that its VALUE: the others are as they are", "'[:b(+(b,1)),!(+(a,b))]'=0 see(0,6) fits(0,0,0..1)=1,5",
                "value(1,3) fits(0,0,0..1)=1,2 told(11)=3 told(10)=0");
        holds("its own VALUE does not count", "'!(a)'=0 value(0,3) see(0,5) fits(0,0,0..1)=1,5 told(10)=3");
        holds("another NAME", "'!(d)'=0 see(0,5) fits(0,0,0)=0 fits(0,3,0..1)=1,5 value(3,5) fits(0,0,0..1)=20,0");
        holds("NONE: no such LINE", "'1'=0 '2'=1 '3'=2", each(NOT_LINES, "fits(X,0,0)=NONE"));
        holds("NONE: no such NAME", "'1'=0", each("-1 4 MAX MIN", "fits(0,X,0)=NONE fits(0,X,1)=NONE"), "fits(0,3,0)=20");
        holds("NONE: no such what", "'1'=0", each("-1 2 MAX MIN", "fits(0,0,X)=NONE"), "fits(0,0,1)=0");
    }

    private static void promise14() {
        holds("STATUS the same", OTHERS, "alike(0..5,0)=1,0,0,0,0,0 alike(0..5,1)=0,1,0,0,0,0 alike(0..5,2)=0,0,1,0,0,0",
                "alike(0..5,3)=0,0,0,1,0,0 alike(0..5,4)=0,0,0,0,1,0 alike(0..5,5)=0,0,0,0,0,1");
        holds("RESULT the same", "'7'=0 '+(3,4)'=1 '8'=2 alike(0,1)=1 alike(1,0)=1 alike(0,2)=0 alike(2,1)=0");
        holds("two ESCAPES are alike", "'@a(a)'=0 '=b(@c(c),b)'=1 '0'=2 alike(0,1)=1 alike(0,2)=0 alike(2,0)=0");
        holds("OUT the same", "'[!(1),!(2),0]'=0 '[!(1),[!(2),0]]'=1 '[!(1),!(3),0]'=2 '[!(1),0]'=3 '0'=4 '[!(2),!(1),0]'=5",
                "alike(0,0..5)=1,1,0,0,0,0 alike(0..5,0)=1,1,0,0,0,0 alike(3,4)=0 alike(4,3)=0");
        holds("OUT's last", FORTY, "'[F(1),F(2),F(3),F(4),[F(5),F(6),F(8)]]'=2 alike(0,2)=0 alike(0,0)=1");
        holds("STEPS and DEEPEST don't count", "'[[[7]]]'=0 '+(1,+(2,4))'=1 alike(0,1)=1");
        holds("without RESULTS: OUT the same", "'[!(1),^a(1)]'=0 '[!(+(0,1)),?(@a(a),2,3)]'=1 '[!(2),^a(1)]'=2 '[!(1),F(1)]'=3",
                "alike(0,1)=1 alike(0,2)=0 alike(0,3)=0");
        holds("FUEL: OUT the same", "'G(1)'=0 'G(2)'=1 '[!(1),G(1)]'=2 define(1,0) alike(0,1)=1 alike(0,2)=0 alike(2,2)=1");
        holds("each from VALUES as they are", "'!(:a(+(a,1)))'=0 '!(1)'=1 alike(0,0)=1 alike(0,1)=1 alike(1,0)=1 told(10)=0",
                "value(0,4) alike(0,1)=0 alike(0,0)=1");
        holds("NONE: either LINE", "'1'=0 '2'=1 '3'=2", each(NOT_LINES, "alike(X,0)=NONE alike(0,X)=NONE alike(X,X)=NONE"));
    }

    private static void odds(String sentence, String text, int above, int below) {
        holds("ODDS: " + sentence + ": " + text, "value(0,3) value(1,1) '" + text + "'=0 '^d(1)'=1 define(1,1)",
                "odds(0,0,0..1)=" + above + "," + below + " told(10)=3 told(0)=-9");
    }

    private static void promise15() {
        int[][] tenths = {{0, 1}, {1, 10}, {1, 5}, {3, 10}, {2, 5}, {1, 2}, {3, 5}, {7, 10}, {4, 5}, {9, 10}, {1, 1}};
        for (int k = 0; k <= 10; k++) {
            odds("a fraction in lowest terms", "<(a," + k + ")", tenths[k][0], tenths[k][1]);
        }
        odds("one of 0 .. 9: not -1", "<(a,0)", 0, 1);
        odds("one of 0 .. 9: 9", "<(8,a)", 1, 10);
        odds("one of 0 .. 9: not 10", "<(9,a)", 0, 1);
        odds("a NUMBER that isn't 0", "a", 9, 10);
        odds("a NUMBER that isn't 0: below it", "-(4,a)", 9, 10);
        odds("RESULT a NUMBER: an ESCAPE is none", "?(<(a,3),@b(b),1)", 7, 10);
        odds("STATUS is 0: KIND", "?(<(a,4),^d(1),1)", 3, 5);
        odds("STATUS is 0: LOST", "?(<(a,5),H(1),1)", 1, 2);
        odds("STATUS is 0: KIND in a FUNCTION", "?(<(a,6),G(1),1)", 2, 5);
        odds("never", "^d(1)", 0, 1);
        odds("always", "7", 1, 1);
        holds("STATUS is 0: FUEL, DEEP", "'?(<(a,4),G(1),?(<(a,6),+(0,H(1)),1))'=0 'G(1)'=1 '+(1,H(1))'=2 define(1,1) define(2,2)",
                "odds(0,0,0..1)=2,5");
        holds("its VALUE being one of these, the others as they are", "'[:b(+(b,1)),<(b,2)]'=0 odds(0,0,0..1)=1,1",
                "odds(0,1,0..1)=1,10 told(10..13)=0 value(1,1) odds(0,0,0..1)=0,1");
        holds("another NAME", "'c'=0 odds(0,0,0..1)=0,1 odds(0,2,0..1)=9,10 odds(0,3,0..1)=0,1");
        holds("NO: line", "'1'=0 '2'=1 '3'=2", each(NOT_LINES, "odds(X,0,0)=NO odds(X,0,1)=NO"), "odds(2,3,1)=1");
        holds("NO: name", "'1'=0", each("-1 4 MAX MIN", "odds(0,X,0)=NO"), "odds(0,3,0)=1");
        holds("NO: part", "'1'=0", each("-1 2 MAX MIN", "odds(0,0,X)=NO"), "odds(0,0,1)=1");
    }

    private static void mean(String text, String a, String above, int below) {
        holds("MEAN of " + text + " by " + a, "value(0," + a + ") '" + text + "'=0 mean(0,0..1)=" + above + "," + below
                + " told(0)=-9 told(10)=" + a);
    }

    private static void promise16() {
        mean("!(a)", "7", "7", 1);
        mean("!(a)", "0", "0", 1);
        mean("!(a)", "-7", "-7", 1);
        mean("!(a)", "MIN", "MIN", 1);
        mean("[!(a),!(0)]", "3", "3", 2);
        mean("[!(a),!(0)]", "4", "2", 1);
        mean("[!(a),!(0)]", "-3", "-3", 2);
        mean("[!(a),!(3)]", "-3", "0", 1);
        mean("[!(a),!(0),!(0),!(0)]", "-2", "-1", 2);
        mean("[!(a),!(0),!(0),!(0)]", "2", "1", 2);
        mean("[!(a),!(0),!(0),!(0)]", "6", "3", 2);
        mean("[!(a),!(0),!(0),!(0),!(0)]", "5", "1", 1);
        mean("[!(a),!(a)]", "MAX", "MAX", 1);
        mean("[!(a),!(a),!(0)]", "MAX", "4294967294", 3);
        mean("[!(a),!(a),!(0)]", "MIN", "-4294967296", 3);
        mean("[!(a),^a(1)]", "5", "5", 1);
        holds("MEAN of 40, in lowest terms", "'[F(1),F(2),F(3),F(4),[F(5),F(6)]]'=0 '!(!(!(!(!(!(!(a)))))))'=1 define(0,1)",
                "mean(0,0..1)=27,8");
        holds("MEAN of 40, all alike", FORTY.replace("+(a,b)", "b"), "value(1,MIN) mean(0,0..1)=MIN,1 value(1,MAX) mean(0,0..1)=MAX,1");
        holds("NO: there are none", "'7'=0 '^a(1)'=1 mean(0..1,0..1)=NO");
        holds("NO: line", "'!(1)'=0 '2'=1 '3'=2", each(NOT_LINES, "mean(X,0)=NO mean(X,1)=NO"));
        holds("NO: part", "'!(1)'=0", each("-1 2 MAX MIN", "mean(0,X)=NO"), "mean(0,0..1)=1,1");
        holds("as VALUES are now", "'!(:a(+(a,1)))'=0 mean(0,0)=1 mean(0,0)=1 value(0,5) mean(0,0)=6 told(10)=5");
    }

    private static void promise17() {
        String lines = "'1'=0 '2'=1 '3'=2 ";
        holds("a RUN of LINE n; NONE: line (by 0)", lines, "plan(0,0..2)=1,2,3", each(NOT_LINES, "plan(0,X)=NONE"), "count(2)=3");
        holds("VALUE of NAME n; NONE: name (by 1)", lines, "plan(1,0..3)=1,2,3,4", each("-1 4 MAX MIN", "plan(1,X)=NONE"), "count(2)=4");
        holds("FUNCTION n; NONE: function (by 2)", lines, "plan(2,0..2)=1,2,3", each("-1 3 MAX MIN", "plan(2,X)=NONE"), "count(2)=3");
        holds("NONE: what (0 .. 2)", lines, each("-2 3 MAX MIN", "plan(X,0)=NONE"), "count(2)=0");
        holds("10 rows at most", lines, "9*plan(1,1) plan(1,1)=10 plan(1,1)=FULL plan(0,0)=FULL plan(2,2)=FULL count(2)=10");
        holds("NONE is named ahead of FULL", lines, "10*plan(1,1) plan(0,3)=NONE plan(1,4)=NONE plan(2,3)=NONE plan(3,0)=NONE",
                "plan(-2,0)=NONE plan(2,0)=FULL");
        holds("what -1: it is empty then, 0, whatever the rest is", lines, "plan(-1,MAX)=0 10*plan(1,1) plan(-1,MIN)=0 count(2)=0",
                "plan(1,1)=1 plan(-1,-1)=0");
        holds("an eleventh row is not in the PLAN", "':a(+(a,1))'=0 10*plan(0,0) plan(0,0)=FULL ends(0)=10");
    }

    private static void promise18() {
        String lines = "':a(F(+(a,2)))'=0 '+(a,1)'=1 ':b(+(b,a))'=2 '[:c(4),^d(1)]'=3 '[:c(+(c,1)),F(0)]'=4 value(0,10) define(0,1) ";
        holds("ENDS: VALUES: no PLAN", lines, "value(3,MIN) ends(0..3)=10,0,0,MIN");
        holds("0 a RUN of LINE n till it stands", lines, "plan(0,0) ends(0)=13 plan(0,0) ends(0)=16 plan(0,2) ends(1)=16");
        holds("1 VALUE of NAME n is 0", lines, "plan(1,0) ends(0)=0 plan(0,0) ends(0)=3");
        holds("2 FUNCTION n has no LINE", lines, "plan(2,0) plan(0,0) ends(0)=10 told(20)=1");
        holds("in their order", lines, "plan(0,0) plan(2,0) plan(0,0) ends(0)=13 plan(1,0) plan(0,2) ends(1)=0");
        holds("till it stands, by KIND", lines, "plan(0,3) ends(2)=4 told(12)=0");
        holds("till it stands, by FUEL", "'[:c(+(c,1)),F(0)]'=0 define(0,0) plan(0,0) ends(2)=23");
        holds("another FUNCTION than 0", lines, "plan(2,1) plan(2,2) plan(0,0) ends(0)=13 plan(2,0) plan(0,0) ends(0)=13");
        holds("from VALUES and FUNCTIONS as they are now", lines, "plan(0,0) ends(0)=13 ends(0)=13 value(0,1) ends(0)=4 define(0,-1)",
                "ends(0)=1");
        holds("NO", lines, each("-1 4 MAX MIN", "ends(X)=NO"), "ends(3)=0");
        holds("and changes nothing", lines, "begin(2) step(3) plan(0,0) plan(1,0) plan(2,0) ends(0)=0 told(10)=10 told(20)=1",
                "STOOD=-5,NO,3,2 AT=2,0,1,0 step(99)=5 told(1)=10");
    }

    private static void promise19() {
        holds("A row comes to the BOOK: how many there are", "book(0,0)=1 book(3,MIN)=2 book(3,MAX)=3 count(3)=3");
        holds("8 at most", "7*book(1,1) book(1,1)=8 book(1,1)=FULL count(3)=8");
        holds("NONE", each("-2 4 MAX MIN", "book(X,0)=NONE"), "count(3)=0");
        holds("NONE is named ahead of FULL", "8*book(1,1) book(4,0)=NONE book(-2,0)=NONE book(3,0)=FULL");
        holds("name -1: it is empty then, 0, whatever the rest is", "book(-1,MIN)=0 8*book(1,1) book(-1,MAX)=0 count(3)=0 looked()=-5",
                "book(0,7)=1 looked()=0");
        holds("a ninth row is not in the BOOK", "8*book(1,0) book(1,1)=FULL looked()=-5");
    }

    private static void promise20() {
        holds("-5: none, of none", "looked()=-5 value(0,5) looked()=-5");
        holds("-5: none, of 8", "book(0..3,0) book(0..3,0) looked()=-5");
        holds("the first of these rows", "book(0..3,0) book(0..3,0) value(3,1) looked()=3 value(1,1) looked()=1 value(0,1) looked()=0");
        holds("the last of 8", "7*book(0,0) book(1,0) looked()=-5 value(1,1) looked()=7");
        holds("by which it is otherwise now", "book(2,MIN) looked()=0 value(2,MIN) looked()=-5 value(2,MAX) looked()=0");
        holds("two rows that can't both be", "book(0,0) book(0,1) looked()=1 value(0,1) looked()=0");
        holds("VALUES that a RUN left", "':a(5)'=0 book(0,5) looked()=0 on(0,0) looked()=0 run(0) looked()=-5");
    }

    public static void main(String[] args) {
        promise11();
        promise12();
        promise13();
        promise14();
        promise15();
        promise16();
        promise17();
        promise18();
        promise19();
        promise20();
        due.end("AskedEdgesTest");
    }
}
