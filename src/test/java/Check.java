/** Compares answers with those that are due, and counts the wrong ones. */
final class Check {
    private static int wrong = 0;
    private static int made = 0;
    private static String sentence = "";
    private static int madeBeforeIt = 0;

    private Check() {
    }

    /**
     * The answers from here on show that a sentence of the document holds. Where it stands there
     * ("Terms 2", "Promise 11"), and its words as they stand; see Quotes.
     */
    static void says(String where, String words) {
        mustHaveCompared();
        sentence = where + ", \"" + words + "\": ";
        madeBeforeIt = made;
    }

    private static void mustHaveCompared() {
        if (!sentence.isEmpty() && made == madeBeforeIt) {
            wrong++;
            System.out.println(sentence + "nothing was compared");
        }
    }

    static void due(String call, long got, long want) {
        made++;
        if (got != want) {
            wrong++;
            System.out.println(sentence + call + " answered " + got + ", due is " + want);
        }
    }

    static void due(String call, boolean got, boolean want) {
        due(call, got ? 1L : 0L, want ? 1L : 0L);
    }

    static void isNot(String call, long got, long wrongOne) {
        made++;
        if (got == wrongOne) {
            wrong++;
            System.out.println(sentence + call + " answered " + got + ", due is another answer");
        }
    }

    static int wrong() {
        return wrong;
    }

    /** Says how many were compared; ends the program with 1 if an answer was wrong. */
    static void end() {
        mustHaveCompared();
        System.out.println(made + " answers compared, " + wrong + " not as due");
        if (wrong != 0) {
            System.exit(1);
        }
    }

    /** Puts a text on the tape, blanks behind it up to a whole feed: its length. */
    static int tape(WaterReview x, String text) {
        for (int at = 0; at < text.length(); at += 20) {
            x.feed(four(text, at), four(text, at + 4), four(text, at + 8), four(text, at + 12),
                    four(text, at + 16));
        }
        return text.length();
    }

    /** Tells RULES: what rules() answered. */
    static int rules(WaterReview x, int review, String text) {
        return x.rules(tape(x, text), review);
    }

    /** Tells RULES BESIDE: what beside() answered. */
    static int beside(WaterReview x, String text) {
        return x.beside(tape(x, text));
    }

    static int four(String text, int at) {
        int number = 0;
        for (int i = at; i < at + 4; i++) {
            number = number << 8 | (i < text.length() ? text.charAt(i) & 255 : ' ');
        }
        return number;
    }
}
