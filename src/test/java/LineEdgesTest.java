/** Each sentence on LINES that names an edge, by its own words: Terms, promises 1 to 6. */
public final class LineEdgesTest {
    private static final Due due = new Due();
    private static final String OPS = "+-*<", CALLS = "FGH", NAMING = "=@^:", OTHERS = "?[%!";
    /** One of each form, and each form once within another. */
    private static final String[] GOOD = {
        "7", "42", "907", "a", "d", "+(1,2)", "-(a,12)", "*(123,b)", "<(c,d)", "?(1,2,3)", "=a(1,2)", "[1]", "[1,2]",
        "[1,2,3]", "[1,2,3,4]", "[1,2,3,4,5]", "F(1)", "G(1)", "H(1)", "@b(1)", "^c(1)", "%(1,2,3)", "!(1)", ":d(1)",
        "+(-(*(<(1,2),a),b),?(c,d,=a([9],F(G(H(1))))))", "@b(^c(%(!(:d(99)),[a,[b,[c]]],100)))",
        "[[[[[[[1]]]]]]]", "!(!(!(!(!(!(!(123)))))))", "+(!(!(!(!(!(!(1)))))),+(1,2))",
    };

    private static void holds(String sentence, String... calls) {
        Play.holds(due, sentence, calls);
    }

    /** The text alone is no LINE: the FAULT is at this place. */
    private static void fault(String sentence, int place, String text) {
        holds(sentence + ": " + text, "'" + text + "'=" + (-10 - place) + " count(0)=0 count(4)=0");
    }

    private static void good(String sentence, String text) {
        holds(sentence + ": " + text, "'" + text + "'=0 count(0)=1 count(4)=0");
    }

    /** THE TEXT is the text ahead, a sign, and what is behind: signs that lead on are told, all others are FAULTS. */
    private static void eachSign(String sentence, String ahead, String behind, String leadOn) {
        for (int sign = 0; sign < 128; sign++) {
            boolean leads = leadOn.indexOf(sign) >= 0;
            String feeds = "";
            for (char c : (ahead + (char) sign + behind).toCharArray()) {
                feeds += "feed(" + (int) c + ") ";
            }
            holds(sentence + ", sign " + sign + " behind " + ahead,
                    feeds + "line()=" + (leads ? 0 : -10 - ahead.length()));
        }
    }

    private static void promise1() {
        holds("No LINES", "count(0)=0 of(0,0)=NONE begin(0)=NONE run(0)=NONE on(0,0)=NO define(0,0)=NONE",
                "fits(0,0,0)=NONE alike(0,0)=NONE odds(0,0,0)=NO mean(0,0)=NO plan(0,0)=NONE");
        holds("NAMES .. each with a VALUE (an int; 0 at first)", "told(10..13)=0 ends(0..3)=0 value(0..3,1)=0");
        holds("FUNCTIONS F, G, H have a LINE each, or none (at first)", "told(20..22)=-5 define(0..2,-1)=-5");
        holds("TAPES hold nothing (at first)", "read(0..5,0)=NO item(0..5,0,1)=NOTHING shift(0,0,1,0,0)=NOTHING");
        holds("-9: there was none", "told(0)=-9 told(1)=NO AT=NO told(40)=NO step(0)=STATE judge(0,0)=-5");
        holds("nothing is told by hand yet", "count(1..3)=0 looked()=-5 undo()=STATE");
    }

    private static void promise2() {
        holds("A sign (0 .. 127)", "feed(0)=1 feed(127)=2");
        holds("BAD, below", "feed(-1)=BAD feed(MIN)=BAD count(4)=0 feed(0)=1");
        holds("BAD, above", "feed(128)=BAD feed(255)=BAD feed(304)=BAD feed(MAX)=BAD count(4)=0 feed(127)=1");
        holds("bytes, 100 at most", "99*feed(49) feed(49)=100 feed(49)=FULL count(4)=100 feed(49)=FULL count(4)=100");
        holds("BAD is named ahead of FULL", "100*feed(49) feed(-1)=BAD feed(128)=BAD feed(0)=FULL count(4)=100");
        holds("a FULL text stays as it was", "'[[111,111,111,111,111],[111,111,111,111,111],[111,111,111,111,111],"
                + "[111,111,111,111,111],+(111,1)]'=0 of(0,0)=28");
        String all = "[[111,111,111,111,111],[111,111,111,111,111],[111,111,111,111,111],[111,111,111,111,111],+(111,111)";
        holds("the 101st sign is not in THE TEXT", feeds(all) + "feed(93)=100 feed(93)=FULL line()=0 on(0,1)=222");
        holds("100 bytes, and a byte too many", feeds(all) + "feed(44)=100 feed(93)=FULL line()=-109 count(4)=0");
        holds("100 bytes, not ended", "'" + all.substring(0, 89) + "+(111,!(111'=-110 count(4)=0");
    }

    private static String feeds(String text) {
        String feeds = "";
        for (char c : text.toCharArray()) {
            feeds += "feed(" + (int) c + ") ";
        }
        return feeds;
    }

    private static void numbersAndLetters() {
        for (String n : new String[] {"0", "9", "10", "99", "000", "007", "999"}) {
            holds("1 to 3 digits", "'" + n + "'=0 on(0,1)=" + Integer.parseInt(n) + " of(0,0)=1");
        }
        fault("1 to 3 digits", 3, "1234");
        fault("1 to 3 digits", 3, "0001");
        fault("1 to 3 digits", 7, "+(1,999");
        fault("1 to 3 digits", 7, "+(1,9999)");
        fault("1 to 3 digits", 5, "+(1234,1)");
        holds("a letter a .. d", "value(0..3,5) value(3,8) 'a'=0 'd'=1 on(0,1)=5 on(1,1)=8");
        fault("one letter", 1, "aa");
        fault("one letter", 1, "a1");
        fault("one letter", 1, "1a");
        String leading = OPS + CALLS + NAMING + OTHERS, whole = "0123456789abcd";
        for (int sign = 0; sign < 128; sign++) {
            int alone = whole.indexOf(sign) >= 0 ? 0 : leading.indexOf(sign) >= 0 ? -11 : -10;
            holds("what an E begins with: " + sign, "feed(" + sign + ")=1 line()=" + alone);
            holds("what an E within begins with: " + sign, "feed(91) feed(" + sign + ") line()=" + (alone == -10 ? -11 : -12));
        }
    }

    private static void signsWithin() {
        for (char naming : "@^:".toCharArray()) {
            eachSign("x being a letter a .. d", "" + naming, "(1)", "abcd");
            eachSign("a ( behind x", naming + "b", "1)", "(");
            eachSign("a ) behind the one E", naming + "c(a", "", ")");
        }
        eachSign("x being a letter a .. d", "=", "(1,2)", "abcd");
        eachSign("a ( behind x", "=a", "1,2)", "(");
        eachSign("a , behind the first E", "=a(b", "2)", ",");
        eachSign("a ) behind the second E", "=a(1,b", "", ")");
        for (char op : OPS.toCharArray()) {
            eachSign("op(E,E)", "" + op, "1,2)", "(");
            eachSign("op(E,E)", op + "(a", "2)", ",");
            eachSign("op(E,E)", op + "(a,b", "", ")");
        }
        for (char call : (CALLS + "!").toCharArray()) {
            eachSign("F(E)", "" + call, "1)", "(");
            eachSign("F(E)", call + "(a", "", ")");
        }
        for (char three : "?%".toCharArray()) {
            eachSign("?(E,E,E)", "" + three, "1,2,3)", "(");
            eachSign("?(E,E,E)", three + "(a", "2,3)", ",");
            eachSign("?(E,E,E)", three + "(a,b", "3)", ",");
            eachSign("?(E,E,E)", three + "(a,b,c", "", ")");
        }
        eachSign("5 at most", "[a,b,c,d,a", "", "]");
        eachSign("nothing behind an E", "[1]", "", "");
        eachSign("nothing behind an E", "!(1)", "", "");
        eachSign("a digit may follow", "12", "", "0123456789");
        eachSign("no fourth digit", "123", "", "");
    }

    private static void listsAndBrackets() {
        fault("[E], not []", 1, "[]");
        good("[E]", "[1]");
        good("5 at most", "[1,2,3,4,5]");
        fault("5 at most", 10, "[1,2,3,4,5,6]");
        fault("5 at most, at the , already", 10, "[1,2,3,4,5,");
        fault("5 at most, within another", 13, "[0,[1,2,3,4,5,6],7]");
        good("5 at most, each within 5", "[[1,2,3,4,5],[1,2,3,4,5],[1,2,3,4,5],[1,2,3,4,5],[1,2,3,4,5]]");
        for (int place = 0; place <= 6; place++) {
            String text = "+(1,a)";
            holds("No blanks", feeds(text.substring(0, place)) + "feed(32) " + feeds(text.substring(place))
                    + "line()=" + (-10 - place));
        }
        String[] open = {"+(1,", "?(a,b,", "=a(1,", "[1,", "F(", "@b(", "^c(", "%(1,2,", "!(", ":d(", "["};
        for (String seventh : open) {
            String close = seventh.charAt(0) == '[' ? "]" : ")";
            String six = "[[[[[[", end = "]]]]]]";
            good("A ( or [ within 6 others is one", six + seventh + "1" + close + end);
            good("letters within 7 others", six + seventh + "d" + close + end);
            for (String eighth : open) {
                fault("A ( or [ within 7 others is none", 6 + seventh.length(), six + seventh + eighth + "1");
            }
        }
        good("within others, not behind them", "[[[[[[[1]]],[[[1]]]]],!(!(!(!(!(1)))))]]");
        fault("within others, one closed between", 19, "[[[[[[[1],[2],[3],[[4]]]]]]]]]");
    }

    private static void faults() {
        fault("the end of THE TEXT, if it ends too early", 0, "");
        for (String text : GOOD) {
            good("an E", text);
            for (int place = 0; place < text.length(); place++) {
                String ahead = text.substring(0, place);
                boolean digit = Character.isDigit(text.charAt(place));
                boolean whole = place > 0 && digit && (ahead.matches("\\d+"));
                if (whole) {
                    good("digits, fewer", ahead);
                } else {
                    fault("the end of THE TEXT, if it ends too early", place, ahead);
                }
                fault("the place of the first byte with which none begins so", place, ahead + "~" + text.substring(place));
                fault("the first such byte, though a later one is none", place, ahead + "~~" + "~".repeat(3));
            }
            fault("the end of an E is the end", text.length(), text + (Character.isDigit(text.charAt(0)) ? "~" : "1"));
        }
    }

    private static void promise3() {
        holds("LINES 0 .. 7, as they come", "'0'=0 '1'=1 '2'=2 '3'=3 '4'=4 '5'=5 '6'=6 '7'=7 count(0)=8",
                "on(0..7,1)=0,1,2,3,4,5,6,7 on(8,1)=NO on(-1,1)=NO");
        holds("a FAULT takes no number", "'1'=0 '+'=-11 '2'=1 ')'=-10 '3'=2 count(0)=3 on(0..2,1)=1,2,3");
        holds("THE TEXT .. is empty then", "'12'=0 count(4)=0 '3'=1 on(0..1,1)=12,3 line()=-10");
        holds("by a FAULT, too", "'+(1,'=-14 count(4)=0 '2'=0 on(0,1)=2 '2)'=-11 count(4)=0");
        holds("what stood there is gone", "'+(1,2)'=0 '+(1,2'=-15 '[1,2]'=1 '[1'=-12 '123'=2 '1'=3 on(3,1)=1",
                "'!(1)'=4 '!'=-11 'F('=-12 line()=-10");
        String eight = "'1'=0 '1'=1 '1'=2 '1'=3 '1'=4 '1'=5 '1'=6 '1'=7 ";
        holds("FULL: there are 8 (THE TEXT stays)", eight + "'+(1,2)'=FULL count(4)=6 line()=FULL count(4)=6 feed(49)=7");
        holds("FULL, by an empty TEXT", eight + "line()=FULL count(4)=0 count(0)=8");
        holds("FULL, by a FAULT", eight + "')('=FULL count(4)=2 line()=FULL count(4)=2");
        holds("FULL only by 8", eight.substring(0, eight.indexOf("'1'=7")) + "')'=-10 'b'=7 'c'=FULL on(7,1)=0");
        String many = "[[1,1,1,1,1],[1,1,1,1,1],[1,1,1,1,1],[1,1,1,1,1],[1,1,1,1,";
        String lines = "";
        for (int line = 0; line < 8; line++) {
            lines += "'" + many + line + "]]'=" + line + " ";
        }
        holds("8 LINES, each of many E", lines, "of(0,0)=31 of(7,0)=31 on(0,1)=0 on(7,1)=7");
    }

    /** What 0 .. 3 of a LINE that isn't the first. */
    private static void of(String sentence, String text, int count, int deep, int catches, int calls) {
        holds(sentence + ": " + text, "'%(1,@a(F(2)),3)'=0 '" + text + "'=1",
                "of(1,0..3)=" + count + "," + deep + "," + catches + "," + calls, "begin(1)=" + count,
                "of(0,0..3)=6,4,1,0");
    }

    private static void promise4() {
        of("itself, too", "7", 1, 1, 0, 0);
        of("1: no other in it", "a", 1, 1, 0, 0);
        of("2: one in it", "[a]", 2, 2, 0, 0);
        of("the [..], the others, that come at work are none in it", "[1,2,3,4,5]", 6, 2, 0, 0);
        of("how deep, 8 at most", "[[[[[[[1]]]]]]]", 8, 8, 0, 0);
        of("how deep: the deepest of all", "[1,[2,[3]],[4]]", 8, 4, 0, 0);
        of("how deep: the last", "[1,2,3,4,[5,6,7,8,[9]]]", 12, 4, 0, 0);
        of("how many @", "@a(@a(@b([@c(1),@d(2)])))", 8, 6, 5, 0);
        of("how many @, and no ^", "@a(^a(1))", 3, 3, 1, 0);
        of("LAST in an E: itself", "F(1)", 2, 2, 0, 1);
        of("LAST: itself, not what is in it", "F(F(1))", 3, 3, 0, 1);
        of("G, H, too", "?(1,G(2),H(3))", 6, 3, 0, 2);
        of("the second and third E of a ?", "?(F(1),F(2),F(3))", 7, 3, 0, 2);
        of("not the first E of a ?", "?(F(1),2,3)", 5, 3, 0, 0);
        of("the second of a ?", "?(1,F(2),3)", 5, 3, 0, 1);
        of("the third of a ?", "?(1,2,F(3))", 5, 3, 0, 1);
        of("the second of a =", "=a(1,F(2))", 4, 3, 0, 1);
        of("not the first of a =", "=a(F(1),2)", 4, 3, 0, 0);
        of("the last of a [, one", "[F(1)]", 3, 3, 0, 1);
        of("the last of a [, of two", "[F(1),F(2)]", 5, 3, 0, 1);
        of("the last of a [, of five", "[F(1),F(2),F(3),F(4),F(5)]", 11, 3, 0, 1);
        of("not the others of a [", "[F(1),F(2),F(3),F(4),5]", 10, 3, 0, 0);
        of("the E of a @", "@a(F(1))", 3, 3, 1, 1);
        of("if these are LAST themselves", "+(?(1,F(2),G(3)),4)", 8, 4, 0, 0);
        of("if these are LAST themselves: of a [", "[@a(F(1)),[F(2)],=a(0,F(3)),?(0,F(4),5),6]", 17, 4, 1, 0);
        of("if these are LAST themselves: not of F", "F(?(1,G(2),[H(3)]))", 8, 5, 0, 1);
        of("through all of them", "?(0,=a(1,[2,@b(F(3))]),[G(4)])", 12, 6, 1, 2);
        for (String text : new String[] {"+(F(1),F(2))", "-(F(1),F(2))", "*(F(1),F(2))", "<(F(1),F(2))"}) {
            of("no E of an op", text, 5, 3, 0, 0);
        }
        of("no E of a %", "%(F(1),F(2),F(3))", 7, 3, 0, 0);
        of("not that of a ^", "^a(F(1))", 3, 3, 0, 0);
        of("not that of a !", "!(F(1))", 3, 3, 0, 0);
        of("not that of a :", ":a(F(1))", 3, 3, 0, 0);
        holds("NONE: no such LINE", "'1'=0 '2'=1 of(-1,0)=NONE of(2,0)=NONE of(8,0)=NONE of(MAX,0)=NONE of(MIN,0)=NONE");
        holds("NONE: no such what", "'1'=0 of(0,-1)=NONE of(0,4)=NONE of(0,MAX)=NONE of(0,MIN)=NONE of(0,3)=0");
    }

    private static void promise5() {
        String lines = "'+(a,1)'=0 '*(a,2)'=1 'F(5)'=2 'G(5)'=3 'H(5)'=4 ";
        holds("which it had (-5: none)", lines + "define(0,0)=-5 define(0,1)=0 define(0,1)=1 define(0,-1)=1 define(0,-1)=-5");
        holds("each FUNCTION its own", lines + "define(0,0)=-5 define(1,1)=-5 define(2,4)=-5 told(20..22)=0,1,4",
                "on(2,1)=6 on(3,1)=10 define(1,-1)=1 told(20..22)=0,-5,4 on(3,0)=3");
        holds("NONE: function", lines + "define(-1,0)=NONE define(3,0)=NONE define(MAX,-1)=NONE define(MIN,0)=NONE",
                "told(20..22)=-5");
        holds("NONE: line", lines + "define(0,1) define(0,5)=NONE define(0,-2)=NONE define(0,8)=NONE define(0,MAX)=NONE",
                "define(0,MIN)=NONE define(0,-5)=NONE told(20)=1");
        holds("a LINE of its own", "'F(1)'=0 define(0,0)=-5 on(0,0)=8 told(20)=0");
    }

    private static void promise6() {
        holds("VALUE becomes v: what it was", "value(2,7)=0 value(2,MIN)=7 value(2,MAX)=MIN value(2,-1)=MAX told(12)=-1");
        holds("NO: name", "value(-1,5)=NO value(4,5)=NO value(MAX,5)=NO value(MIN,5)=NO told(10..13)=0");
        holds("each NAME its own", "value(0..3,9)=0 value(1,8)=9 told(10..13)=9,8,9,9");
    }

    public static void main(String[] args) {
        promise1();
        promise2();
        numbersAndLetters();
        signsWithin();
        listsAndBrackets();
        faults();
        promise3();
        promise4();
        promise5();
        promise6();
        due.end("LineEdgesTest");
    }
}
