/** Compares answers with those that are due, and counts the ones that are otherwise. */
final class Due {
    private int wrong;
    private int asked;

    void is(String call, long want, long got) {
        asked++;
        if (got != want) {
            wrong++;
            System.out.println(call + " answered " + got + ", due is " + want);
        }
    }

    /** Ends the program: with 1, if an answer was otherwise. */
    void end(String name) {
        System.out.println(name + ": " + asked + " answers, " + wrong + " not as due");
        if (wrong != 0) {
            System.exit(1);
        }
    }

    /** Feeds all signs of a text and reads it: what line() answers. */
    static int line(EscapeFrames x, String text) {
        for (int i = 0; i < text.length(); i++) {
            x.feed(text.charAt(i));
        }
        return x.line();
    }

    /** A new object with these LINES. */
    static EscapeFrames with(String... texts) {
        EscapeFrames x = new EscapeFrames();
        for (String text : texts) {
            if (line(x, text) < 0) {
                throw new IllegalStateException(text);
            }
        }
        return x;
    }
}
