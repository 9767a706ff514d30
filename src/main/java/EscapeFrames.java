/**
 * A continuation interpreter: lines are read into expressions, a machine works on them step by
 * step, and escapes keep its whole chain of frames. The numbered promises stand in shared/DOC.md;
 * words in capitals are that document's.
 *
 * <p>All that a RUN makes lies in rows that are laid once and used again by the next RUN: a frame,
 * a scope, a winder or an escape is a number, and what it holds is never changed once a later one
 * can tell of it. So an escape, and THE IMAGE, keep a whole chain by keeping one number.
 */
public final class EscapeFrames {
    public static final int NONE = -1, BAD = -2, STATE = -3, FULL = -4;
    public static final long NO = Long.MIN_VALUE;

    private static final int NOTHING = -11, CAST = -12, PLACE = -13, SIZE = -14;
    private static final int ABSENT = -5;

    private static final int NAMES = 4, FUNCTIONS = 3, TAPES = 6;
    private static final int MOST_LINES = 8, MOST_TEXT = 100, MOST_WITHIN = 7, MOST_LISTED = 5;
    private static final int MOST_STEPS = 300, MOST_FRAMES = 40, MOST_OUT = 40, MOST_ITEMS = 60;
    private static final int MOST_SEEN = 5, MOST_PLAN = 10, MOST_BOOK = 8;
    private static final int FITTING = 20, LIKELY = 10;

    // Every E takes a byte of THE TEXT of its own, and so does every comma of a list.
    private static final int MOST_PARTS = MOST_LINES * MOST_TEXT;
    // A STEP makes one frame, scope, winder or escape of each at most; number 0 is the empty one.
    private static final int ROOM = MOST_STEPS + 1;

    private static final int OVER = 0, KIND = 2, LOST = 3, DEEP = 4, FUEL = 8;
    private static final int RUNS = -5, NEVER_RAN = -9;

    // What an E is, and what a frame is for: 0 to 10 are the numbers that told(8) answers.
    private static final int OP = 0, CHOICE = 1, BIND = 2, LIST = 3, CALL = 4, GO = 5, WRITE = 6,
            STORE = 7, WIND = 8, GOING_ON = 9, COMING_IN = 10;
    private static final int DIGITS = 11, LETTER = 12, CATCH = 13, REST = 14;

    // A THING is a long: an int is that NUMBER, ESCAPE and above an ESCAPE, NO is unbound.
    private static final long ESCAPE = 1L << 32;

    private final Lines lines;
    private final Reader reader;
    private final Kept now;
    private final Kept image;
    private boolean imageTaken;
    private final World trialWorld;
    private final Machine trial;
    private final Outcome compared;
    private final Tape[] tapes;

    public EscapeFrames() {
        lines = new Lines();
        reader = new Reader(lines);
        now = new Kept(lines);
        image = new Kept(lines);
        trialWorld = new World();
        trial = new Machine(lines, trialWorld);
        compared = new Outcome();
        tapes = new Tape[TAPES];
        for (int i = 0; i < tapes.length; i++) {
            tapes[i] = new Tape();
        }
    }

    // ---- lines

    public int feed(int sign) {
        if (sign < 0 || sign > 127) {
            return BAD;
        }
        return reader.append(sign);
    }

    public int line() {
        return lines.size >= MOST_LINES ? FULL : reader.take();
    }

    public int of(int line, int what) {
        if (!lines.has(line) || what < 0 || what >= Lines.FACTS) {
            return NONE;
        }
        return lines.fact(line, what);
    }

    public int define(int function, int line) {
        if (!isFunction(function) || line != -1 && !lines.has(line)) {
            return NONE;
        }
        int had = at(now.world.functions, function);
        put(now.world.functions, function, line == -1 ? ABSENT : line);
        return had;
    }

    public long value(int name, int v) {
        if (!isName(name)) {
            return NO;
        }
        int was = at(now.world.values, name);
        put(now.world.values, name, v);
        return was;
    }

    // ---- runs

    public int begin(int line) {
        if (!lines.has(line)) {
            return NONE;
        }
        now.machine.start(line);
        return lines.fact(line, 0);
    }

    public int step(int n) {
        if (n < 0 || n > MOST_STEPS) {
            return BAD;
        }
        return now.machine.outcome.status == RUNS ? now.machine.move(n) : STATE;
    }

    public int run(int line) {
        if (!lines.has(line)) {
            return NONE;
        }
        now.machine.start(line);
        now.machine.move(MOST_STEPS);
        return now.machine.outcome.status;
    }

    public long told(int what) {
        if (what >= 5 && what <= 8) {
            return now.machine.state(what);
        }
        if (what >= 10 && isName(what - 10)) {
            return at(now.world.values, what - 10);
        }
        if (what >= 20 && isFunction(what - 20)) {
            return at(now.world.functions, what - 20);
        }
        return now.machine.outcome.answer(what);
    }

    // ---- what would be

    public long on(int line, int what) {
        if (!lines.has(line)) {
            return NO;
        }
        trialWorld.copyFrom(now.world);
        return tryOut(line).answer(what);
    }

    public int see(int place, int v) {
        if (place == -1) {
            return now.seen.empty();
        }
        return place < 0 || place >= MOST_OUT ? BAD : now.seen.add(place, v);
    }

    public int fits(int line, int name, int what) {
        if (!lines.has(line) || !isName(name) || what < 0 || what > 1) {
            return NONE;
        }
        int fitting = 0;
        int least = ABSENT;
        for (int v = 0; v < FITTING; v++) {
            if (tryWith(line, name, v).shows(now.seen)) {
                fitting++;
                least = least == ABSENT ? v : least;
            }
        }
        return what == 0 ? fitting : least;
    }

    public int alike(int line, int other) {
        if (!lines.has(line) || !lines.has(other)) {
            return NONE;
        }
        trialWorld.copyFrom(now.world);
        compared.copyFrom(tryOut(line));
        trialWorld.copyFrom(now.world);
        return tryOut(other).sameAs(compared) ? 1 : 0;
    }

    public long odds(int line, int name, int part) {
        if (!lines.has(line) || !isName(name) || part < 0 || part > 1) {
            return NO;
        }
        int good = 0;
        for (int v = 0; v < LIKELY; v++) {
            long result = tryWith(line, name, v).answer(1);
            if (result != NO && result != 0) {
                good++;
            }
        }
        return inLowestTerms(good, LIKELY, part);
    }

    public long mean(int line, int part) {
        if (!lines.has(line) || part < 0 || part > 1) {
            return NO;
        }
        trialWorld.copyFrom(now.world);
        Outcome outcome = tryOut(line);
        return outcome.size == 0 ? NO : inLowestTerms(outcome.sum(), outcome.size, part);
    }

    /** The RUN of a LINE in the trial's own world, which it may change. */
    private Outcome tryOut(int line) {
        trial.start(line);
        trial.move(MOST_STEPS);
        return trial.outcome;
    }

    private Outcome tryWith(int line, int name, int v) {
        trialWorld.copyFrom(now.world);
        put(trialWorld.values, name, v);
        trial.start(line);
        trial.move(MOST_STEPS);
        return trial.outcome;
    }

    /** Above (part 0) or below (part 1) the line of above / below, which is 1 or more. */
    private static long inLowestTerms(long above, int below, int part) {
        int common = 1;
        for (int d = 2; d <= below; d++) {
            if (above % d == 0 && below % d == 0) {
                common = d;
            }
        }
        return part == 0 ? above / common : below / common;
    }

    // ---- plans, books

    public int plan(int what, int n) {
        if (what == -1) {
            return now.plan.empty();
        }
        boolean stands = what == 0 && lines.has(n) || what == 1 && isName(n) || what == 2 && isFunction(n);
        return stands ? now.plan.add(what, n) : NONE;
    }

    public long ends(int name) {
        if (!isName(name)) {
            return NO;
        }
        trialWorld.copyFrom(now.world);
        for (int row = 0; row < now.plan.size; row++) {
            int n = at(now.plan.right, row);
            switch (at(now.plan.left, row)) {
                case 0: tryOut(n); break;
                case 1: put(trialWorld.values, n, 0); break;
                default: put(trialWorld.functions, n, ABSENT); break;
            }
        }
        return at(trialWorld.values, name);
    }

    public int book(int name, int v) {
        if (name == -1) {
            return now.book.empty();
        }
        return isName(name) ? now.book.add(name, v) : NONE;
    }

    public int looked() {
        for (int row = 0; row < now.book.size; row++) {
            if (at(now.world.values, at(now.book.left, row)) != at(now.book.right, row)) {
                return row;
            }
        }
        return ABSENT;
    }

    // ---- judging, the image, tapes

    public int judge(int tape, int i) {
        Tape told = tapeOf(tape);
        if (told == null) {
            return NONE;
        }
        if (told.sort != Tape.NO_ROW && told.sort != Tape.INTS) {
            return CAST;
        }
        Outcome outcome = now.machine.outcome;
        for (int k = 0; k < outcome.size; k++) {
            // An i near the greatest int must not wrap round to a place that is there.
            if (!told.has(i) || i >= told.size - k) {
                return 100 + k;
            }
            if (at(told.items, i + k) != at(outcome.out, k)) {
                return k;
            }
        }
        return ABSENT;
    }

    public int image() {
        image.copyFrom(now);
        imageTaken = true;
        return lines.size;
    }

    public int undo() {
        if (!imageTaken) {
            return STATE;
        }
        now.copyFrom(image);
        return lines.size;
    }

    public int count(int what) {
        switch (what) {
            case 0: return lines.size;
            case 1: return now.seen.size;
            case 2: return now.plan.size;
            case 3: return now.book.size;
            case 4: return reader.size;
            default: return BAD;
        }
    }

    public int tape(int tape, int sort, int n) {
        Tape made = tapeOf(tape);
        if (made == null) {
            return NONE;
        }
        if (sort == Tape.NO_ROW) {
            made.become(sort, 0);
            return 1;
        }
        if (sort < 0 || sort > Tape.BOOLEANS || n > MOST_ITEMS) {
            return BAD;
        }
        if (n < 0) {
            return SIZE;
        }
        made.become(sort, n);
        return 1;
    }

    public int item(int tape, int i, long v) {
        Tape changed = tapeOf(tape);
        if (changed == null) {
            return NONE;
        }
        if (changed.sort == Tape.NO_ROW) {
            return NOTHING;
        }
        if (!changed.has(i)) {
            return PLACE;
        }
        put(changed.items, i, changed.lowestBits(v));
        return 1;
    }

    public long read(int tape, int i) {
        Tape asked = tapeOf(tape);
        return asked != null && asked.has(i) ? at(asked.items, i) : NO;
    }

    public int shift(int tape, int i, int other, int j, int n) {
        Tape from = tapeOf(tape);
        Tape to = tapeOf(other);
        if (from == null || to == null) {
            return NONE;
        }
        if (from.sort == Tape.NO_ROW || to.sort == Tape.NO_ROW) {
            return NOTHING;
        }
        if (from.sort != to.sort) {
            return CAST;
        }
        if (n < 0 || i < 0 || j < 0 || n > from.size - i || n > to.size - j) {
            return PLACE;
        }
        System.arraycopy(from.items, i, to.items, j, n);
        return n;
    }

    private Tape tapeOf(int tape) {
        return tape >= 0 && tape < tapes.length ? tapes[tape] : null;
    }

    // ---- rows that are looked at with care

    private static boolean isName(int n) {
        return n >= 0 && n < NAMES;
    }

    private static boolean isFunction(int n) {
        return n >= 0 && n < FUNCTIONS;
    }

    private static boolean isNumber(long thing) {
        return thing == (int) thing;
    }

    private static int at(int[] row, int i) {
        return i >= 0 && i < row.length ? row[i] : 0;
    }

    private static long at(long[] row, int i) {
        return i >= 0 && i < row.length ? row[i] : 0;
    }

    private static void put(int[] row, int i, int v) {
        if (i >= 0 && i < row.length) {
            row[i] = v;
        }
    }

    private static void put(long[] row, int i, long v) {
        if (i >= 0 && i < row.length) {
            row[i] = v;
        }
    }

    private static void copyRow(int[] from, int[] to) {
        System.arraycopy(from, 0, to, 0, Math.min(from.length, to.length));
    }

    private static void copyRow(long[] from, long[] to) {
        System.arraycopy(from, 0, to, 0, Math.min(from.length, to.length));
    }

    /**
     * The LINES and all E in them. An E is a number; those within it have greater ones. A list
     * [E,..] is a LIST, whose second E is the REST of it: the machine works on "[.., the others]"
     * as on an E, though it is none that is counted.
     */
    private static final class Lines {
        static final int FACTS = 4;

        int size;
        int used;
        private final int[] kinds = new int[MOST_PARTS];
        private final int[] marks = new int[MOST_PARTS];
        private final int[] parts = new int[MOST_PARTS * 3];
        private final int[] depths = new int[MOST_PARTS];
        private final int[] lasts = new int[MOST_PARTS];
        private final int[] roots = new int[MOST_LINES];
        private final int[] facts = new int[MOST_LINES * FACTS];

        boolean has(int line) {
            return line >= 0 && line < size;
        }

        int root(int line) {
            return at(roots, line);
        }

        int fact(int line, int what) {
            return at(facts, line * FACTS + what);
        }

        int kind(int e) {
            return at(kinds, e);
        }

        /** The number of digits, the NAME of a letter, the sign of an op, the FUNCTION of a call. */
        int mark(int e) {
            return at(marks, e);
        }

        /** The E that stands at k in this one, or -1. */
        int part(int e, int k) {
            return at(parts, e * 3 + k);
        }

        int add(int kind, int mark) {
            if (used >= kinds.length) {
                return -1;
            }
            int e = used;
            used++;
            put(kinds, e, kind);
            put(marks, e, mark);
            for (int k = 0; k < 3; k++) {
                link(e, k, -1);
            }
            return e;
        }

        void link(int e, int k, int part) {
            put(parts, e * 3 + k, part);
        }

        /** All E from this one on are a new LINE's. */
        int end(int root) {
            int line = size;
            size++;
            put(roots, line, root);
            put(depths, root, 1);
            put(lasts, root, 1);
            for (int e = root; e < used; e++) {
                handDown(e);
                countIn(line, e);
            }
            return line;
        }

        private void handDown(int e) {
            for (int k = 0; k < 3; k++) {
                int part = part(e, k);
                if (part >= 0) {
                    put(depths, part, at(depths, e) + (kind(part) == REST ? 0 : 1));
                    put(lasts, part, at(lasts, e) != 0 && isLast(e, k) ? 1 : 0);
                }
            }
        }

        private boolean isLast(int e, int k) {
            switch (kind(e)) {
                case CHOICE: return k > 0;
                case BIND: return k == 1;
                case LIST: case REST: return k == 1 || part(e, 1) < 0;
                case CATCH: return true;
                default: return false;
            }
        }

        private void countIn(int line, int e) {
            int kind = kind(e);
            int first = line * FACTS;
            put(facts, first, at(facts, first) + (kind == REST ? 0 : 1));
            put(facts, first + 1, Math.max(at(facts, first + 1), at(depths, e)));
            put(facts, first + 2, at(facts, first + 2) + (kind == CATCH ? 1 : 0));
            put(facts, first + 3, at(facts, first + 3) + (kind == CALL ? at(lasts, e) : 0));
        }
    }

    /** THE TEXT, and how it is read: a byte is passed only if some E goes on with it. */
    private static final class Reader {
        int size;
        private int place;
        private final int[] text = new int[MOST_TEXT];
        private final Lines lines;

        Reader(Lines lines) {
            this.lines = lines;
        }

        int append(int sign) {
            if (size >= text.length) {
                return FULL;
            }
            put(text, size, sign);
            size++;
            return size;
        }

        int take() {
            int from = lines.used;
            place = 0;
            boolean whole = expression(0) == from && place == size;
            size = 0;
            if (whole) {
                return lines.end(from);
            }
            lines.used = from;
            return -10 - place;
        }

        private int sign() {
            return place < size ? at(text, place) : -1;
        }

        private boolean passed(char due) {
            if (sign() != due) {
                return false;
            }
            place++;
            return true;
        }

        /** The E that begins at the place, or -1: then the place is the FAULT's. */
        private int expression(int within) {
            int sign = sign();
            if (isDigit(sign)) {
                return digits();
            }
            if (isLetter(sign)) {
                place++;
                return lines.add(LETTER, sign - 'a');
            }
            // No sign but those leads to an E without a bracket.
            int kind = within < MOST_WITHIN ? kindBy(sign) : -1;
            if (kind < 0) {
                return -1;
            }
            place++;
            if (kind == LIST) {
                return list(within + 1);
            }
            int mark = kind == CALL ? sign - 'F' : sign;
            if (kind == BIND || kind == CATCH || kind == GO || kind == STORE) {
                if (!isLetter(sign())) {
                    return -1;
                }
                mark = sign() - 'a';
                place++;
            }
            return parts(lines.add(kind, mark), howMany(kind), within + 1);
        }

        private int digits() {
            int number = 0;
            for (int k = 0; k < 3 && isDigit(sign()); k++) {
                number = number * 10 + sign() - '0';
                place++;
            }
            return lines.add(DIGITS, number);
        }

        private int parts(int e, int n, int within) {
            for (int k = 0; k < n; k++) {
                int part = passed(k == 0 ? '(' : ',') ? expression(within) : -1;
                if (part < 0) {
                    return -1;
                }
                lines.link(e, k, part);
            }
            return passed(')') ? e : -1;
        }

        private int list(int within) {
            int whole = lines.add(LIST, 0);
            int rest = whole;
            for (int k = 1; k <= MOST_LISTED; k++) {
                int part = expression(within);
                if (part < 0) {
                    return -1;
                }
                lines.link(rest, 0, part);
                if (passed(']')) {
                    return whole;
                }
                if (k == MOST_LISTED || !passed(',')) {
                    return -1;
                }
                int others = lines.add(REST, 0);
                lines.link(rest, 1, others);
                rest = others;
            }
            return -1;
        }

        private static boolean isDigit(int sign) {
            return sign >= '0' && sign <= '9';
        }

        private static boolean isLetter(int sign) {
            return sign >= 'a' && sign <= 'd';
        }

        private static int kindBy(int sign) {
            switch (sign) {
                case '+': case '-': case '*': case '<': return OP;
                case '?': return CHOICE;
                case '=': return BIND;
                case '[': return LIST;
                case 'F': case 'G': case 'H': return CALL;
                case '@': return CATCH;
                case '^': return GO;
                case '%': return WIND;
                case '!': return WRITE;
                case ':': return STORE;
                default: return -1;
            }
        }

        private static int howMany(int kind) {
            switch (kind) {
                case CHOICE: case WIND: return 3;
                case OP: case BIND: return 2;
                default: return 1;
            }
        }
    }

    /** VALUES and FUNCTIONS: what a RUN finds, and may change. */
    private static final class World {
        final int[] values = new int[NAMES];
        final int[] functions = new int[FUNCTIONS];

        World() {
            for (int f = 0; f < functions.length; f++) {
                functions[f] = ABSENT;
            }
        }

        void copyFrom(World other) {
            copyRow(other.values, values);
            copyRow(other.functions, functions);
        }
    }

    /** The SCOPES of a RUN: a THING for each NAME; 0 binds nothing. */
    private static final class Scopes {
        private int used;
        private final long[] things = new long[ROOM * NAMES];

        void clear() {
            used = 1;
            for (int name = 0; name < NAMES; name++) {
                put(things, name, NO);
            }
        }

        long thing(int scope, int name) {
            return at(things, scope * NAMES + name);
        }

        int bind(int scope, int name, long thing) {
            if (used >= ROOM) {
                return scope;
            }
            int bound = used;
            used++;
            for (int n = 0; n < NAMES; n++) {
                put(things, bound * NAMES + n, n == name ? thing : thing(scope, n));
            }
            return bound;
        }

        void copyFrom(Scopes other) {
            used = other.used;
            copyRow(other.things, things);
        }
    }

    /** The FRAMES of a RUN, each with the one below it: a CHAIN is its latest; 0 is the empty one. */
    private static final class Frames {
        private int used;
        private final int[] below = new int[ROOM];
        private final int[] heights = new int[ROOM];
        private final int[] sorts = new int[ROOM];
        private final int[] behind = new int[ROOM];
        private final int[] expressions = new int[ROOM];
        private final int[] scopes = new int[ROOM];
        private final int[] escapes = new int[ROOM];
        private final long[] kept = new long[ROOM];

        void clear() {
            used = 1;
        }

        int below(int frame) {
            return at(below, frame);
        }

        int height(int frame) {
            return at(heights, frame);
        }

        int sort(int frame) {
            return at(sorts, frame);
        }

        /** Behind which E of its own it waits, counted from 0. */
        int behind(int frame) {
            return at(behind, frame);
        }

        int expression(int frame) {
            return at(expressions, frame);
        }

        int scope(int frame) {
            return at(scopes, frame);
        }

        int escape(int frame) {
            return at(escapes, frame);
        }

        long kept(int frame) {
            return at(kept, frame);
        }

        /** The chain with a frame more, or 0 where it has as many as it may. */
        int add(int chain, int sort, int behindWhich, int e, int scope) {
            int height = at(heights, chain) + 1;
            if (height > MOST_FRAMES || used >= ROOM) {
                return 0;
            }
            int frame = used;
            used++;
            put(below, frame, chain);
            put(heights, frame, height);
            put(sorts, frame, sort);
            put(behind, frame, behindWhich);
            put(expressions, frame, e);
            put(scopes, frame, scope);
            put(escapes, frame, 0);
            put(kept, frame, 0);
            return frame;
        }

        void keep(int frame, long thing, int escape) {
            put(kept, frame, thing);
            put(escapes, frame, escape);
        }

        void copyFrom(Frames other) {
            used = other.used;
            copyRow(other.below, below);
            copyRow(other.heights, heights);
            copyRow(other.sorts, sorts);
            copyRow(other.behind, behind);
            copyRow(other.expressions, expressions);
            copyRow(other.scopes, scopes);
            copyRow(other.escapes, escapes);
            copyRow(other.kept, kept);
        }
    }

    /**
     * The WINDERS of a RUN, each with those it came on: such a row is its latest; 0 is the empty
     * one. A WINDER that is come into again keeps its number, so two rows are the very same ones
     * where their numbers are.
     */
    private static final class Winders {
        private int used;
        private final int[] below = new int[ROOM];
        private final int[] heights = new int[ROOM];
        private final int[] expressions = new int[ROOM];
        private final int[] scopes = new int[ROOM];

        void clear() {
            used = 1;
        }

        int below(int row) {
            return at(below, row);
        }

        int height(int row) {
            return at(heights, row);
        }

        int expression(int winder) {
            return at(expressions, winder);
        }

        int scope(int winder) {
            return at(scopes, winder);
        }

        int add(int row, int e, int scope) {
            if (used >= ROOM) {
                return row;
            }
            int winder = used;
            used++;
            put(below, winder, row);
            put(heights, winder, height(row) + 1);
            put(expressions, winder, e);
            put(scopes, winder, scope);
            return winder;
        }

        /** The first that the row kept has beyond this one; 0 where it doesn't go on from this. */
        int next(int row, int kept) {
            int winder = kept;
            for (int n = height(kept) - height(row); n > 1; n--) {
                winder = below(winder);
            }
            return winder != 0 && below(winder) == row ? winder : 0;
        }

        void copyFrom(Winders other) {
            used = other.used;
            copyRow(other.below, below);
            copyRow(other.heights, heights);
            copyRow(other.expressions, expressions);
            copyRow(other.scopes, scopes);
        }
    }

    /** What can be told of a RUN from without, also when it stands. */
    private static final class Outcome {
        int status = NEVER_RAN;
        int steps;
        int deepest;
        int size;
        final int[] out = new int[MOST_OUT];
        private long result;

        void clear() {
            status = RUNS;
            steps = 0;
            deepest = 0;
            size = 0;
            result = 0;
        }

        void over(long thing) {
            status = OVER;
            result = thing;
        }

        void write(int v) {
            if (size < MOST_OUT) {
                put(out, size, v);
                size++;
            }
        }

        long answer(int what) {
            switch (what) {
                case 0: return status;
                case 1: return status == OVER && isNumber(result) ? result : NO;
                case 2: return steps;
                case 3: return deepest;
                case 4: return size;
                default: return what >= 40 && what - 40 < size ? at(out, what - 40) : NO;
            }
        }

        boolean shows(Rows seen) {
            for (int row = 0; row < seen.size; row++) {
                int place = at(seen.left, row);
                if (place >= size || at(out, place) != at(seen.right, row)) {
                    return false;
                }
            }
            return true;
        }

        boolean sameAs(Outcome other) {
            // No number is NO: so a RESULT that is none, or an ESCAPE, is alike to its like alone.
            boolean same = status == other.status && size == other.size && answer(1) == other.answer(1);
            for (int k = 0; k < size && same; k++) {
                same = at(out, k) == at(other.out, k);
            }
            return same;
        }

        long sum() {
            long sum = 0;
            for (int k = 0; k < size; k++) {
                sum += at(out, k);
            }
            return sum;
        }

        void copyFrom(Outcome other) {
            status = other.status;
            steps = other.steps;
            deepest = other.deepest;
            size = other.size;
            result = other.result;
            copyRow(other.out, out);
        }
    }

    /** THE MACHINE: at work on an E in a SCOPE, or giving a THING. */
    private static final class Machine {
        final Outcome outcome = new Outcome();
        private final Lines lines;
        private final World world;
        private final Scopes scopes = new Scopes();
        private final Frames frames = new Frames();
        private final Winders winders = new Winders();
        private final int[] keptChains = new int[ROOM];
        private final int[] keptWinders = new int[ROOM];
        private int escapes;
        private boolean gives;
        private int expression;
        private int scope;
        private long thing;
        private int chain;
        private int winding;

        Machine(Lines lines, World world) {
            this.lines = lines;
            this.world = world;
        }

        void start(int line) {
            outcome.clear();
            scopes.clear();
            frames.clear();
            winders.clear();
            escapes = 0;
            gives = false;
            expression = lines.root(line);
            scope = 0;
            chain = 0;
            winding = 0;
        }

        /** How many STEPS of n it made. */
        int move(int n) {
            int made = 0;
            while (made < n && outcome.status == RUNS) {
                made++;
                outcome.steps++;
                if (gives) {
                    receive();
                } else {
                    work();
                }
                if (outcome.status == RUNS && outcome.steps >= MOST_STEPS) {
                    outcome.status = FUEL;
                }
            }
            return made;
        }

        long state(int what) {
            if (outcome.status != RUNS) {
                return NO;
            }
            switch (what) {
                case 5: return frames.height(chain);
                case 6: return winders.height(winding);
                case 7: return gives ? 1 : 0;
                case 8: return chain == 0 ? ABSENT : frames.sort(chain);
                default: return NO;
            }
        }

        private void work() {
            int kind = lines.kind(expression);
            int mark = lines.mark(expression);
            boolean listed = kind == LIST || kind == REST;
            if (kind == DIGITS) {
                give(mark);
            } else if (kind == LETTER) {
                give(lookUp(mark));
            } else if (kind == CATCH) {
                scope = scopes.bind(scope, mark, caught());
                workOn(0);
            } else if (listed && lines.part(expression, 1) < 0) {
                workOn(0);
            } else if (kind == GO) {
                workToGo(lookUp(mark));
            } else {
                comes(listed ? LIST : kind, 0);
                workOn(0);
            }
        }

        private void workToGo(long aim) {
            if (isNumber(aim)) {
                outcome.status = KIND;
                return;
            }
            frames.keep(comes(GO, 0), 0, (int) (aim - ESCAPE));
            workOn(0);
        }

        /** The THING is given to the latest frame. */
        private void receive() {
            if (chain == 0) {
                outcome.over(thing);
                return;
            }
            int frame = chain;
            int sort = frames.sort(frame);
            chain = frames.below(frame);
            expression = frames.expression(frame);
            scope = frames.scope(frame);
            if ((sort == CHOICE || sort == WRITE || sort == STORE) && !isNumber(thing)) {
                outcome.status = KIND;
                return;
            }
            switch (sort) {
                case OP: receiveOp(frame); break;
                case CHOICE: workOn(thing != 0 ? 1 : 2); break;
                case BIND:
                    scope = scopes.bind(scope, lines.mark(expression), thing);
                    workOn(1);
                    break;
                case LIST: workOn(1); break;
                case CALL: call(at(world.functions, lines.mark(expression))); break;
                case GO: go(frames.escape(frame), thing); break;
                case WRITE: outcome.write((int) thing); break;
                case STORE: put(world.values, lines.mark(expression), (int) thing); break;
                case WIND: receiveWind(frame); break;
                case COMING_IN:
                    winding = winders.next(winding, at(keptWinders, frames.escape(frame)));
                    go(frames.escape(frame), frames.kept(frame));
                    break;
                default: go(frames.escape(frame), frames.kept(frame)); break;
            }
        }

        private void receiveOp(int frame) {
            if (frames.behind(frame) == 0) {
                frames.keep(comes(OP, 1), thing, 0);
                workOn(1);
                return;
            }
            long left = frames.kept(frame);
            if (!isNumber(left) || !isNumber(thing)) {
                outcome.status = KIND;
                return;
            }
            give(made(lines.mark(expression), (int) left, (int) thing));
        }

        private static int made(int sign, int left, int right) {
            switch (sign) {
                case '+': return left + right;
                case '-': return left - right;
                case '*': return left * right;
                default: return left < right ? 1 : 0;
            }
        }

        private void receiveWind(int frame) {
            switch (frames.behind(frame)) {
                case 0:
                    winding = winders.add(winding, expression, scope);
                    comes(WIND, 1);
                    workOn(1);
                    break;
                case 1:
                    winding = winders.below(winding);
                    frames.keep(comes(WIND, 2), thing, 0);
                    workOn(2);
                    break;
                default: give(frames.kept(frame)); break;
            }
        }

        private void call(int line) {
            if (!lines.has(line)) {
                outcome.status = LOST;
                return;
            }
            scope = scopes.bind(0, 0, thing);
            expression = lines.root(line);
            gives = false;
        }

        /** One WINDER further on the way to an ESCAPE, or there. */
        private void go(int escape, long v) {
            int aim = at(keptWinders, escape);
            if (aim == winding) {
                chain = at(keptChains, escape);
                give(v);
                return;
            }
            int next = winders.next(winding, aim);
            boolean leaves = next == 0;
            int winder = leaves ? winding : next;
            winding = leaves ? winders.below(winding) : winding;
            expression = winders.expression(winder);
            scope = winders.scope(winder);
            chain = 0;
            frames.keep(comes(leaves ? GOING_ON : COMING_IN, 0), v, escape);
            workOn(leaves ? 2 : 0);
        }

        private void give(long v) {
            thing = v;
            gives = true;
        }

        private void workOn(int k) {
            expression = lines.part(expression, k);
            gives = false;
        }

        private long lookUp(int name) {
            long bound = scopes.thing(scope, name);
            return bound == NO ? at(world.values, name) : bound;
        }

        private long caught() {
            int escape = escapes;
            escapes++;
            put(keptChains, escape, chain);
            put(keptWinders, escape, winding);
            return ESCAPE + escape;
        }

        private int comes(int sort, int behind) {
            int frame = frames.add(chain, sort, behind, expression, scope);
            if (frame == 0) {
                outcome.status = DEEP;
                return 0;
            }
            chain = frame;
            outcome.deepest = Math.max(outcome.deepest, frames.height(frame));
            return frame;
        }

        void copyFrom(Machine other) {
            outcome.copyFrom(other.outcome);
            scopes.copyFrom(other.scopes);
            frames.copyFrom(other.frames);
            winders.copyFrom(other.winders);
            copyRow(other.keptChains, keptChains);
            copyRow(other.keptWinders, keptWinders);
            escapes = other.escapes;
            gives = other.gives;
            expression = other.expression;
            scope = other.scope;
            thing = other.thing;
            chain = other.chain;
            winding = other.winding;
        }
    }

    /** Rows of two numbers, told by hand. */
    private static final class Rows {
        int size;
        final int[] left = new int[MOST_PLAN];
        final int[] right = new int[MOST_PLAN];
        private final int most;

        Rows(int most) {
            this.most = most;
        }

        int empty() {
            size = 0;
            return size;
        }

        int add(int first, int second) {
            if (size >= most) {
                return FULL;
            }
            put(left, size, first);
            put(right, size, second);
            size++;
            return size;
        }

        void copyFrom(Rows other) {
            size = other.size;
            copyRow(other.left, left);
            copyRow(other.right, right);
        }
    }

    /** All that THE IMAGE keeps. */
    private static final class Kept {
        final World world;
        final Machine machine;
        final Rows seen = new Rows(MOST_SEEN);
        final Rows plan = new Rows(MOST_PLAN);
        final Rows book = new Rows(MOST_BOOK);

        Kept(Lines lines) {
            world = new World();
            machine = new Machine(lines, world);
        }

        void copyFrom(Kept other) {
            world.copyFrom(other.world);
            machine.copyFrom(other.machine);
            seen.copyFrom(other.seen);
            plan.copyFrom(other.plan);
            book.copyFrom(other.book);
        }
    }

    /** A TAPE: its items are held as longs, cut to what an item of its sort has. */
    private static final class Tape {
        static final int NO_ROW = -1, BYTES = 0, SHORTS = 1, INTS = 2, BOOLEANS = 4;

        int sort = NO_ROW;
        int size;
        final long[] items = new long[MOST_ITEMS];

        boolean has(int i) {
            return i >= 0 && i < size;
        }

        void become(int newSort, int n) {
            sort = newSort;
            size = n;
            for (int i = 0; i < items.length; i++) {
                items[i] = 0;
            }
        }

        long lowestBits(long v) {
            switch (sort) {
                case BYTES: return (byte) v;
                case SHORTS: return (short) v;
                case INTS: return (int) v;
                case BOOLEANS: return v != 0 ? 1 : 0;
                default: return v;
            }
        }
    }
}
