import java.util.ArrayList;
import java.util.List;

/**
 * The edges of a text of RULES, a test for each sentence: what Terms 2 say of the text and its
 * FAULT, and Promises 10 to 13.
 */
final class EdgeTextTest {
    private static final int NONE = -1;
    private static final int MIN = Integer.MIN_VALUE;
    private static final int MAX = Integer.MAX_VALUE;
    private static final String HEADS = "run pipes power other";
    private static final String KINDS = "allow share target return index wear back tilt log";
    private static final String ONES = "year firm homes worth late not (";
    /** Each token that is told anywhere, some that are told nowhere, and NUMBERS at their edges. */
    private static final String[] POOL = ("amend strike unless and or not ( ) < > = ; $ ! , - + "
            + KINDS + " " + HEADS + " line mean best plan more less step coin dead cap "
            + "year firm homes worth late a z allo allows loga xlog unles nota ands ors "
            + "0 1 2 3 00 000 0000 00000 000000 00001 00002 000001 49 50 99 100 101 149 150 151 "
            + "199 200 201 499 500 501 00500 9999 10000 99999 099999 100000 4294967296 "
            + "18446744073709551616").split(" ");

    private EdgeTextTest() {
    }

    public static void main(String[] args) {
        grammar();
        numbers();
        strikes();
        tokens();
        opens();
        statements();
        amending();
        fault();
        promise10();
        promise11();
        promise12();
        promise13();
        Check.end();
    }

    // ---- what a text is

    /** The text must be taken. */
    private static void good(String text) {
        WaterReview x = new WaterReview();
        Check.due("rules of " + text, Check.rules(x, 0, text), 0);
        Check.due("fault of " + text, x.fault(), NONE);
    }

    /** The text must have its FAULT there. */
    private static void bad(String text, int place) {
        WaterReview x = new WaterReview();
        Check.due("rules of " + text, Check.rules(x, 0, text), NONE);
        Check.due("fault of " + text, x.fault(), place);
    }

    private static boolean isAmong(String token, String words) {
        return (" " + words + " ").contains(" " + token + " ");
    }

    /** Whether a token fits: a slot is words, or a NUMBER as "#least-most". */
    private static boolean fits(String slot, String token) {
        if (!slot.startsWith("#")) {
            return isAmong(token, slot);
        }
        String[] bounds = slot.substring(1).split("-");
        return token.matches("[0-9]{1,5}") && Integer.parseInt(token) >= Integer.parseInt(bounds[0])
                && Integer.parseInt(token) <= Integer.parseInt(bounds[1]);
    }

    /**
     * Behind a beginning the slots are gone through: each token of the pool that fits lets the
     * text go on, each other one is the FAULT. The first word, or the last one that fits a NUMBER,
     * leads to the next slot.
     */
    private static void form(String beginning, String... slots) {
        String text = beginning;
        for (String slot : slots) {
            String last = "";
            for (String token : POOL) {
                if (!fits(slot, token)) {
                    bad(text + token, text.length());
                    bad(text + token + " 5;", text.length());
                } else if (token.equals(";")) {
                    good(text + token);
                } else {
                    last = token;
                    bad(text + token, text.length() + token.length());
                    bad(text + token + " \n ", text.length() + token.length() + 3);
                }
            }
            text += (slot.startsWith("#") ? last : slot.split(" ")[0]) + " ";
        }
    }

    private static void grammar() {
        Check.says("Terms 2", "RULES are a text: [\"amend\" \";\"] {RULE [\"unless\" ANY]"
                + " \";\" | \"strike\" NUMBER \";\"}.");
        good("");
        form("", "amend " + KINDS);
        form("log 5;", KINDS);
        form("log 5;\n log 6;", KINDS);
        form("amend ", ";");
        form("amend;", KINDS + " strike");
        form("amend;log 5;", KINDS + " strike");
        form("log 5 ", "; unless");
        good("log 5;log 5;log 5;");
        good("log 5 unless year<5;log 6;");
        Check.says("Terms 2", "RULE: \"allow\" HEAD (\"line\" | \"mean\" | \"best\") NUMBER NUMBER"
                + " | \"allow\" HEAD \"plan\" NUMBER");
        for (String head : HEADS.split(" ")) {
            form("allow ", HEADS);
            form("allow " + head + " ", "line mean best plan");
            for (String mode : "line mean best".split(" ")) {
                form("allow " + head + " " + mode + " ", "#0-2", "#0-200", "; unless");
            }
            form("allow " + head + " plan ", "#0-200", "; unless");
        }
        Check.says("Terms 2", "\"share\" HEAD NUMBER NUMBER");
        form("share ", HEADS);
        for (String head : HEADS.split(" ")) {
            form("share " + head + " ", "#0-100", "#0-100", "; unless");
        }
        Check.says("Terms 2", "\"target\" NUMBER (\"more\" | \"less\") NUMBER \"step\" NUMBER"
                + " \"coin\" NUMBER \"dead\" NUMBER \"cap\" NUMBER");
        form("target ", "#0-2", "more less", "#0-99999", "step", "#1-99999", "coin", "#0-99999",
                "dead", "#0-99999", "cap", "#0-99999", "; unless");
        form("target 0 less ", "#0-99999", "step");
        Check.says("Terms 2", "(\"return\" | \"index\" | \"wear\" | \"back\" | \"tilt\" | \"log\")"
                + " NUMBER.");
        form("return ", "#0-500", "; unless");
        form("index ", "#50-150", "; unless");
        for (String kind : "wear back tilt log".split(" ")) {
            form(kind + " ", "#0-100", "; unless");
        }
        tests();
    }

    private static void tests() {
        Check.says("Terms 2", "HEAD: run, pipes, power, other. ANY: ALL {\"or\" ALL}."
                + " ALL: ONE {\"and\" ONE}. ONE: \"not\" ONE | \"(\" ANY \")\" | WORD (\"<\" |"
                + " \">\" | \"=\") NUMBER. WORD: year, firm, homes, worth, late.");
        String log = "log 5 unless ";
        for (String word : "year firm homes worth late".split(" ")) {
            form(log + word + " ", "< > =", "#0-99999", "; and or");
        }
        form(log, ONES, "< > =", "#0-99999", "; and or");
        form(log + "not ", ONES);
        form(log + "( ", ONES);
        form(log + "year<5 and ", ONES);
        form(log + "year<5 or ", ONES);
        form(log + "not not ", ONES);
        form(log + "not year<5 ", "; and or");
        form(log + "( year<5 ", ") and or");
        form(log + "( year<5 ) ", "; and or");
        form(log + "((year<5) ", ") and or");
        form(log + "((year<5)) ", "; and or");
        form(log + "(not year<5 ", ") and or");
        form(log + "not (year<5 ", ") and or");
        form(log + "(year<5 and firm=1 ", ") and or");
        form(log + "(year<5 or firm=1 ", ") and or");
        form(log + "year<5 or firm>1 and late=2 ", "; and or");
        // "and" holds together more than "or"; "not" holds for one ONE alone.
        holds("year=0 or year=0 and year=1", true);
        holds("year=1 and year=0 or year=0", true);
        holds("(year=0 or year=0) and year=1", false);
        holds("year=1 and (year=0 or year=0)", false);
        holds("not year=1 or year=0", true);
        holds("not (year=1 or year=0)", false);
        holds("not year=0 and year=1", false);
        holds("not (year=0 and year=1)", true);
        holds("year=1 or year=1 or year=0", true);
        holds("year=1 or year=1 or year=1", false);
        holds("year=0 and year=0 and year=0", true);
        holds("year=0 and year=0 and year=1", false);
        holds("year=1 and year=0 and year=0", false);
    }

    /** Whether a test holds for FIRM 0 in YEAR 0. */
    private static void holds(String test, boolean due) {
        WaterReview x = new WaterReview();
        x.firm(1);
        Check.due("rules of " + test, Check.rules(x, 0, "log 5 unless " + test + ";"), 0);
        Check.due("unless " + test, x.holds(0, 0, 8, 0), due ? NONE : 0);
    }

    private static void numbers() {
        Check.says("Terms 2", "NUMBER: one to five digits");
        good("log 1;");
        good("log 00001;");
        bad("log 000001;", 4);
        bad("log ;", 4);
        good("log 5 unless year<99999;");
        bad("log 5 unless year<999999;", 18);
        // A NUMBER that would wrap around to a small one is beyond its bounds.
        bad("log 4294967301;", 4);
        bad("log 18446744073709551621;", 4);
        Check.says("Terms 2", "of \"line\", \"mean\", \"best\" first a DRIVER 0 to 2, then 0 to 200");
        for (String mode : "line mean best".split(" ")) {
            good("allow run " + mode + " 0 0;");
            good("allow run " + mode + " 2 200;");
            bad("allow run " + mode + " 3 200;", 15);
            bad("allow run " + mode + " 2 201;", 17);
        }
        Check.says("Terms 2", "of \"plan\" 0 to 200");
        good("allow run plan 0;");
        good("allow run plan 200;");
        bad("allow run plan 201;", 15);
        Check.says("Terms 2", "of \"share\" 0 to 100 each");
        good("share run 0 0;");
        good("share run 100 100;");
        bad("share run 101 100;", 10);
        bad("share run 100 101;", 14);
        Check.says("Terms 2", "of \"target\" an OUTPUT 0 to 2, of \"step\" 1 at least");
        good("target 0 more 0 step 1 coin 0 dead 0 cap 0;");
        good("target 2 less 99999 step 99999 coin 99999 dead 99999 cap 99999;");
        bad("target 3 more 0 step 1 coin 0 dead 0 cap 0;", 7);
        bad("target 2 more 0 step 0 coin 0 dead 0 cap 0;", 21);
        bad("target 2 more 0 step 00000 coin 0 dead 0 cap 0;", 21);
        bad("target 2 more 100000 step 1 coin 0 dead 0 cap 0;", 14);
        bad("target 2 more 0 step 100000 coin 0 dead 0 cap 0;", 21);
        bad("target 2 more 0 step 1 coin 100000 dead 0 cap 0;", 28);
        bad("target 2 more 0 step 1 coin 0 dead 100000 cap 0;", 35);
        bad("target 2 more 0 step 1 coin 0 dead 0 cap 100000;", 41);
        Check.says("Terms 2", "of \"return\" 0 to 500, \"index\" 50 to 150, \"wear\", \"back\","
                + " \"tilt\", \"log\" 0 to 100");
        good("return 0;return 500;index 50;index 150;wear 0;wear 100;back 0;back 100;");
        good("tilt 0;tilt 100;log 0;log 100;");
        bad("return 501;", 7);
        bad("index 49;", 6);
        bad("index 0;", 6);
        bad("index 151;", 6);
        bad("wear 101;", 5);
        bad("back 101;", 5);
        bad("tilt 101;", 5);
        bad("log 101;", 4);
    }

    // ---- amending

    private static final String THREE = "return 10;index 90;wear 3;";

    private static Story three() {
        return Story.ofFirms(1000).rules(0, THREE);
    }

    /** Behind RULES of three statements: the text's number, or NONE and its FAULT. */
    private static void behindThree(String text, int place) {
        Story s = three().tape(text);
        s.answers("rules of " + text, place == NONE ? 1 : NONE, x -> x.rules(text.length(), 0));
        s.then(x -> x.rules(text.length(), 0));
        s.answers("fault of " + text, place, x -> x.fault());
    }

    private static void strikes() {
        Check.says("Terms 2", "\"strike\" is told behind \"amend\" alone, its NUMBER a place (0 on)"
                + " that is there and isn't struck yet.");
        behindThree("amend;strike 0;", NONE);
        behindThree("amend;strike 2;", NONE);
        behindThree("amend;strike 00002;", NONE);
        behindThree("amend;strike 3;", 13);
        behindThree("amend;strike 99999;", 13);
        behindThree("amend;strike 4294967296;", 13);
        behindThree("amend;strike 0;strike 1;strike 2;", NONE);
        behindThree("amend;strike 2;strike 1;strike 0;", NONE);
        behindThree("amend;strike 0;strike 0;", 22);
        behindThree("amend;strike 1;strike 2;strike 1;", 31);
        behindThree("amend;log 5;strike 2;", NONE);
        behindThree("amend;log 5;strike 3;", 19);
        behindThree("strike 0;", 0);
        behindThree("log 5;strike 0;", 6);
        bad("amend;strike 0;", 13);
        // What another text struck is there, by its new place.
        Story twice = three().rules(0, "amend;strike 0;");
        twice.answers("two are left", 2, x -> x.review(0, 1));
        Story.of(twice).answers("place 1", 2, x -> Check.rules(x, 0, "amend;strike 1;"));
        Story.of(twice).answers("place 2", NONE, x -> Check.rules(x, 0, "amend;strike 2;"));
        Story.of(twice).answers("place 0 again", 2, x -> Check.rules(x, 0, "amend;strike 0;"));
    }

    private static void tokens() {
        Check.says("Terms 2", "Tokens as long as they go: words of letters a to z, digits, signs;");
        good("log5;log6unless year<5and firm=1or late>2;");
        good("allow run plan5unless(not(year=5));");
        bad("logs 5;", 0);
        bad("lo g 5;", 0);
        bad("log 5 0;", 6);
        bad("log 100 0;", 8);
        bad("log 1000;", 4);
        bad("allow runplan 5;", 6);
        bad("allowrun plan 5;", 0);
        bad("log 5 unless notyear<5;", 13);
        bad("log 5 unless year<5 andfirm=1;", 20);
        bad("log 5unlessyear<5;", 5);
        for (int b = 0; b < 256; b++) {
            insideAWord(b);
        }
        Check.says("Terms 2", "between them blanks (bytes 32 and 10).");
        for (int b = 0; b < 256; b++) {
            between(b);
        }
        good("  \n\n log \n 5 \n ; \n\n");
        good(" ".repeat(880) + "log 5;");
        good("log" + "\n".repeat(800) + "5;");
    }

    private static boolean isLetter(int b) {
        return b >= 'a' && b <= 'z';
    }

    private static boolean isDigit(int b) {
        return b >= '0' && b <= '9';
    }

    /** A byte between "log" and "5", and behind a whole text. */
    private static void between(int b) {
        String text = "log" + (char) b + "5;";
        if (b == 32 || b == 10) {
            good(text);
            good("log 5;" + (char) b);
            good((char) b + "log 5;");
            good("log 5" + (char) b + ";");
        } else {
            if (isDigit(b)) {
                good(text);
            } else {
                bad(text, isLetter(b) ? 0 : 3);
            }
            bad("log 5;" + (char) b, 6);
            bad((char) b + " log 5;", 0);
        }
    }

    /** A byte in a word parts it, or makes it another one. */
    private static void insideAWord(int b) {
        bad("log 5;lo" + (char) b + "g 5;", 6);
        String text = "log 5;log 6" + (char) b;
        if (b == ';') {
            good(text);
        } else if (b == 32 || b == 10 || isDigit(b)) {
            bad(text, text.length());
        } else {
            bad(text, 11);
        }
        String number = "log 1" + (char) b + "0;";
        if (b == '0') {
            good(number);
        } else if (isDigit(b)) {
            bad(number, 4);
        } else {
            bad(number, b == 32 || b == 10 || b == ';' ? 6 : 5);
        }
    }

    private static String times(String text, int n) {
        return text.repeat(n);
    }

    private static void opens() {
        Check.says("Terms 2", "\"not\" and \"(\": at most 10 open in one another.");
        String log = "log 5 unless ";
        for (int mask = 0; mask < 1024; mask++) {
            StringBuilder open = new StringBuilder(log);
            StringBuilder close = new StringBuilder();
            for (int i = 0; i < 10; i++) {
                open.append((mask >> i & 1) == 0 ? "not " : "(");
                close.append((mask >> i & 1) == 0 ? "" : ")");
            }
            good(open + "year<5" + close + ";");
            bad(open + "not year<5" + close + ";", open.length());
            bad(open + "(year<5)" + close + ";", open.length());
        }
        good(log + times("not ", 10) + "year<5 and " + times("not ", 10) + "year<5;");
        good(log + times("(", 10) + "year<5" + times(")", 10) + " or " + times("(", 10) + "year<5"
                + times(")", 10) + ";");
        good(log + times("(", 9) + "not year<5 and not year<6 or (year<7)" + times(")", 9) + ";");
        good(log + times("(", 9) + times("(year<5)or", 20) + " not late=1" + times(")", 9) + ";");
        good(log + times("(year<5)and ", 40) + "not not not year<5;");
        String five = log + times("(", 10) + "year<5" + times(")", 5) + " and " + times("not ", 5);
        good(five + "year<6" + times(")", 5) + ";");
        bad(five + "not year<6" + times(")", 5) + ";", five.length());
        bad(five + "(year<6)" + times(")", 5) + ";", five.length());
        // Tests of ten open ones are told apart.
        holds(times("not ", 10) + "year=0", true);
        holds(times("not ", 9) + "year=0", false);
        holds(times("(", 10) + "year=0" + times(")", 10), true);
        holds(times("not(", 5) + "year=0" + times(")", 5), false);
        holds(deep("year=0", 10), true);
        holds(deep("year=1", 10), false);
    }

    /** What waits for its "and" and "or" at each depth, as much as can be. */
    private static String deep(String test, int depth) {
        String all = test;
        for (int i = 0; i < depth; i++) {
            all = "year=1 or year=0 and (" + all + ")";
        }
        return all;
    }

    private static void statements() {
        Check.says("Terms 2", "At most 30 statements (\"amend\" aside).");
        good(times("log 5;", 29));
        good(times("log 5;", 30));
        bad(times("log 5;", 31), 180);
        good("amend;" + times("log 5;", 30));
        bad("amend;" + times("log 5;", 31), 186);
        good("amend;" + times("log 5 unless year<5;", 30));
        Story s = Story.ofFirms(5).rules(0, times("log 5;", 30));
        StringBuilder strikes = new StringBuilder("amend;");
        for (int i = 0; i < 30; i++) {
            strikes.append("strike ").append(i).append(';');
        }
        String all = strikes.toString();
        s.answers("30 strikes", 1, x -> Check.rules(x, 0, all));
        s.answers("30 strikes and a RULE", NONE, x -> Check.rules(x, 0, all + "log 6;"));
        Story.of(s).rules(0, all + "log 6;").answers("their FAULT", all.length(), x -> x.fault());
        Story.of(s).rules(0, all).answers("none is left", 0, x -> x.review(0, 1));
        // The text's own are counted, not those of all together.
        Story more = Story.of(s).rules(0, "amend;" + times("log 6;", 30));
        more.answers("60 in all", 60, x -> x.review(0, 1));
        for (int i = 0; i < 6; i++) {
            more.rules(0, "amend;" + times("log 6;", 30));
        }
        more.answers("240 in all", 240, x -> x.review(0, 1));
        more.answers("the last one holds", 239, x -> x.holds(0, 0, 8, 0));
        more.beside("amend;" + times("return 500;", 29) + "strike 239;");
        more.answers("269 less 1 beside", 0, x -> x.tried(0, 0) == 2 ? 0 : 1);
    }

    private static void amending() {
        Check.says("Terms 2", "An amending text: its RULES stand behind those that its REVIEW"
                + " would have if it were decided TODAY");
        three().rules(0, "amend;log 7;wear 9;").isAs("its RULES stand behind",
                three().rules(0, THREE + "log 7;wear 9;"));
        three().rules(1, "amend;log 7;").isAs("those for an earlier REVIEW",
                three().rules(1, THREE + "log 7;"));
        three().rules(1, "tilt 4;").rules(0, "amend;log 7;").isAs("not those for a later REVIEW",
                three().rules(1, "tilt 4;").rules(0, THREE + "log 7;"));
        three().rules(0, "tilt 4;").rules(0, "amend;log 7;").isAs("those told last",
                three().rules(0, "tilt 4;").rules(0, "tilt 4;log 7;"));
        Story.ofFirms(5).rules(1, "amend;log 7;").isAs("there may be none",
                Story.ofFirms(5).rules(1, "log 7;"));
        // REVIEW 0 was decided on DAY 0, without what was told later.
        Story later = three().day(1).rules(0, "tilt 4;");
        Story.of(later).rules(1, "amend;log 7;").isAs("decided TODAY, not as it was",
                Story.of(later).rules(1, "tilt 4;log 7;"));
        Story.of(later).day(501).rules(1, "back 8;").rules(1, "amend;log 7;").rules(2, "amend;")
                .isAs("REVIEW 1 is decided already", Story.of(later).day(501).rules(1, "back 8;")
                .rules(1, "back 8;log 7;").rules(2, "back 8;log 7;"));
        Check.says("Terms 2", "(BESIDE: TODAY's YEAR's)");
        Story each = Story.ofFirms(1000).rules(0, "return 10;").rules(1, "return 20;");
        each.rules(2, "return 30;");
        int[] days = {0, 499, 500, 501, 999, 1000, 1499};
        int[] due = {10, 10, 20, 20, 20, 30, 30};
        for (int i = 0; i < days.length; i++) {
            Story.of(each).day(days[i]).beside("amend;").answers("beside on " + days[i], due[i],
                    x -> x.tried(0, 0));
        }
        Story.of(each).day(501).rules(1, "return 40;").beside("amend;").answers(
                "what TODAY's REVIEW would have TODAY", 40, x -> x.tried(0, 0));
        Check.says("Terms 2", "without the ones it strikes (by their places there, as they were)");
        three().rules(0, "amend;strike 0;strike 1;").isAs("the first two", three().rules(0,
                "wear 3;"));
        three().rules(0, "amend;strike 1;strike 0;").isAs("the first two, the other way round",
                three().rules(0, "wear 3;"));
        three().rules(0, "amend;strike 1;log 8;strike 2;").isAs("the last two", three().rules(0,
                "return 10;log 8;"));
        three().rules(0, "amend;strike 0;strike 1;strike 2;").isAs("all", three().rules(0, ""));
        three().rules(0, "amend;strike 1;").rules(0, "index 70;").isAs("what is struck is no more",
                three().rules(0, "return 10;wear 3;").rules(0, "index 70;"));
        three().beside("amend;strike 0;").answers("it is struck beside alone", 10,
                x -> x.line(0, 0, 0, 4));
        Check.says("Terms 2", "places are those of all together then.");
        Story together = three().rules(0, "amend;strike 0;log 8;wear 4;");
        together.answers("index has moved up", 0, x -> x.holds(0, 0, 4, 0));
        together.answers("log stands behind", 2, x -> x.holds(0, 0, 8, 0));
        together.answers("wear", 3, x -> x.holds(0, 0, 5, 0));
        together.answers("QUARREL's first", 1, x -> x.review(0, 2));
        together.answers("QUARREL's second", 3, x -> x.review(0, 3));
        together.answers("statements", 4, x -> x.review(0, 1));
        Story.of(together).rules(0, "amend;strike 3;").answers("wear struck by its new place", 1,
                x -> x.holds(0, 0, 5, 0));
    }

    private static void fault() {
        Check.says("Terms 2", "FAULT: the place of the first byte of the first token (or byte that"
                + " begins none) with which no such text goes on");
        bad("log 5;  lag 6; lug 7;", 8);
        bad("log 5; \n log lag;", 13);
        bad("log 5 6 $;", 6);
        bad("log 5;  $", 8);
        bad("log 5;  A", 8);
        bad("log $5;", 4);
        bad("log 5" + (char) 9 + ";", 5);
        bad("$", 0);
        bad("log 99 unless year!5;", 18);
        Check.says("Terms 2", "(a NUMBER beyond its bounds, the eleventh open, too; strike without"
                + " such a place: at its NUMBER, the token there, or the text's length)");
        bad("log   101;", 6);
        bad("log 5 unless " + times("not ", 10) + "  not year<5;", 55);
        bad("log 5 unless " + times("( ", 10) + "  ( year<5;", 35);
        behindThree("amend;strike   3;", 15);
        behindThree("amend;strike 3", 13);
        behindThree("amend;strike 3 5", 13);
        behindThree("amend;strike 0;strike 0", 22);
        behindThree("amend;strike 000000;", 13);
        behindThree("amend;strike ;", 13);
        behindThree("amend;strike log", 13);
        behindThree("amend;strike $", 13);
        behindThree("amend;strike (", 13);
        behindThree("amend;strike", 12);
        behindThree("amend;strike   ", 15);
        bad("amend;strike", 12);
        bad("amend;strike ;", 13);
        bad("amend;strike 0", 13);
        behindThree("amend;strike 0;strike 1;strike 2;strike", 39);
        behindThree("amend;strike 0;strike 1;strike 2;strike ;", 40);
        Check.says("Terms 2", "the text's length, if more must come;");
        bad("log", 3);
        bad("log ", 4);
        bad("log 5", 5);
        bad("log 5 \n\n", 8);
        bad("amend", 5);
        behindThree("amend;strike 0", 14);
        behindThree("amend;strike 0  ", 16);
        bad("log 5 unless", 12);
        bad("log 5 unless year<5 and", 23);
        bad("log 5 unless (year<5", 20);
        WaterReview x = new WaterReview();
        Check.tape(x, "log 5;log 6;");
        x.rules(11, 0);
        Check.due("the text's length, not the tape's", x.fault(), 11);
        Check.says("Terms 2", "the 31st statement: where it begins.");
        bad(times("log 5;", 30) + "log 5;", 180);
        bad(times("log 5;", 30) + "  \n log 5;", 184);
        bad(times("log 5;", 30) + " log 101;", 181);
        bad(times("log 5;", 30) + " return", 181);
        bad(times("log 5;", 30) + " (", 181);
        bad(times("log 5;", 30) + " $", 181);
        bad(times("log 5;", 29) + " log 101;log 5;", 179);
        bad("amend;" + times("log 5;", 30) + " strike 0;", 187);
        good(times("log 5;", 30) + "  \n ");
    }

    // ---- Promises

    private static void promise10() {
        Check.says("Promise 10", "Twenty bytes come behind those on the tape");
        Story s = new Story();
        for (int i = 1; i <= 45; i++) {
            int bytes = 20 * i;
            s.answers("feed " + i, bytes, x -> x.feed(0x20202020, 0x20202020, 0, MIN, MAX));
            s.then(x -> x.feed(0x20202020, 0x20202020, 0x20202020, 0x20202020, 0x20202020));
        }
        Story parts = new Story().tape("return 100;log 5;   ").tape("wear 7;");
        parts.isAs("behind those", new Story().tape("return 100;log 5;   wear 7;"));
        Story.of(parts).then(x -> x.rules(27, 0)).answers("three statements", 3,
                x -> x.review(0, 1));
        Story last = new Story().tape(" ".repeat(894) + "log 5;");
        last.answers("the 900th byte", 0, x -> x.rules(900, 0));
        last.answers("without it", NONE, x -> x.rules(899, 0));
        Story.of(last).then(x -> x.rules(899, 0)).answers("more must come", 899, x -> x.fault());
        Check.says("Promise 10", "of each number the highest first: how many there are.");
        // "log " "5;in" "dex " "77;w" "ear " and "6;  ": no byte stands twice in its number.
        WaterReview x = new WaterReview();
        Check.due("20", x.feed(0x6c6f6720, 0x353b696e, 0x64657820, 0x37373b77, 0x65617220), 20);
        Check.due("40", x.feed(0x363b2020, 0x20202020, 0x20202020, 0x20202020, 0x20202020), 40);
        Check.due("their bytes as RULES", x.rules(22, 0), 0);
        Check.due("three statements", x.review(0, 1), 3);
        highBytes();
        Check.says("Promise 10", "NONE, doing nothing: there would be more than 900.");
        s.refuses("900 are there", NONE, y -> y.feed(1, 2, 3, 4, 5), y -> y.feed(0, 0, 0, 0, 0));
        last.refuses("900 bytes of a text", NONE, y -> y.feed(MIN, MAX, 0, -1, 5));
        Story.of(last).then(y -> y.rules(900, 0)).answers("the tape is free again", 20,
                y -> y.feed(0, 0, 0, 0, 0));
    }

    private static void highBytes() {
        for (int place = 0; place < 20; place++) {
            int[] n = new int[5];
            java.util.Arrays.fill(n, 0x20202020);
            n[place / 4] = n[place / 4] & ~(255 << 24 - 8 * (place % 4))
                    | 0xff << 24 - 8 * (place % 4);
            WaterReview x = new WaterReview();
            Check.due("a number below 0 or above", x.feed(n[0], n[1], n[2], n[3], n[4]), 20);
            Check.due("the byte 255", x.rules(20, 0), NONE);
            Check.due("its place", x.fault(), place);
        }
    }

    private static void promise11() {
        Check.says("Promise 11", "The first n bytes of the tape (which is empty then) are RULES for"
                + " REVIEWS from one on (0 to 2): their number.");
        Story s = Story.ofFirms(1000).tape("log 5;return 9;log 6");
        s.answers("none of them", 0, x -> x.rules(0, 0));
        s.answers("six of them", 0, x -> x.rules(6, 0));
        s.answers("fifteen of them", 0, x -> x.rules(15, 0));
        s.answers("all", NONE, x -> x.rules(20, 0));
        for (int n : new int[] {0, 6, 15, 20}) {
            Story then = Story.of(s).then(x -> x.rules(n, 0));
            then.answers("the tape is empty behind " + n, 0, x -> x.count(9));
            then.answers("nothing is on it behind " + n, -2, x -> x.rules(1, 0));
        }
        Story.of(s).then(x -> x.rules(6, 0)).answers("of six", 1, x -> x.review(0, 1));
        Story.of(s).then(x -> x.rules(15, 0)).answers("of fifteen", 2, x -> x.review(0, 1));
        Story.of(s).then(x -> x.rules(0, 0)).answers("of none", 0, x -> x.review(0, 1));
        for (int from = 0; from < 3; from++) {
            int f = from;
            Story told = Story.of(s).then(x -> x.rules(15, f));
            for (int review = 0; review < 3; review++) {
                int r = review;
                told.answers("from " + f + " on", r < f ? NONE : 0, x -> x.review(r, 0));
            }
        }
        Story eight = Story.ofFirms(1000);
        for (int i = 0; i < 8; i++) {
            String text = "return " + 10 * i + ";";
            eight.answers("number " + i, i, x -> Check.rules(x, 0, text));
            eight.rules(0, text);
        }
        Check.says("Promise 11", "NONE: a FAULT");
        Story fault = Story.ofFirms(1000).rules(0, "log 4;").tape("log 5;lag 6;");
        fault.answers("a FAULT", NONE, x -> x.rules(12, 0));
        fault.then(x -> x.rules(12, 0));
        fault.answers("nothing is taken", 1, x -> x.count(7));
        fault.answers("RULES as they were", 0, x -> x.review(0, 0));
        fault.answers("the tape is empty", 0, x -> x.count(9));
        fault.answers("the next number", 1, x -> Check.rules(x, 0, "log 5;"));
        Check.says("Promise 11", "-2, doing nothing: n is below 0 or more than there are,"
                + " no such REVIEW");
        Story.world().bounds("rules", -2, (x, a) -> x.rules(a[0], a[1]), new int[] {7, 1},
                new int[] {0, 20}, new int[] {0, 2});
        new Story().bounds("rules of an empty tape", -2, (x, a) -> x.rules(a[0], 0),
                new int[] {0}, new int[] {0, 0});
        Check.says("Promise 11", "-3, doing nothing: there are 8.");
        eight.answers("the eighth holds", 70, x -> x.line(0, 0, 0, 4));
        Story full = Story.of(eight).beside("log lag").tape("log 5;lag");
        full.refuses("there are 8", -3, x -> x.rules(6, 0), x -> x.rules(0, 2),
                x -> x.rules(6, 1));
        full.refuses("there are 8, and a FAULT", -3, x -> x.rules(9, 0), x -> x.rules(20, 0));
        full.refuses("no such n goes first", -2, x -> x.rules(21, 0), x -> x.rules(-1, 0),
                x -> x.rules(6, 3), x -> x.rules(6, -1), x -> x.rules(MIN, MAX));
        full.answers("beside there is place", 0, x -> x.beside(6));
    }

    private static void promise12() {
        Check.says("Promise 12", "Likewise RULES BESIDE (in place of what was): 0.");
        Story s = Story.ofFirms(1000).tape("return 90;return 80;");
        s.answers("beside", 0, x -> x.beside(10));
        Story first = Story.of(s).then(x -> x.beside(10));
        first.answers("the first bytes alone", 90, x -> x.tried(0, 0));
        first.answers("the tape is empty", 0, x -> x.count(9));
        first.answers("they aren't in force", NONE, x -> x.review(0, 0));
        first.answers("nor taken", 0, x -> x.count(7));
        first.isAs("in place of what was", Story.ofFirms(1000).beside("return 60;log 8;wear 7;")
                .beside("return 70;").beside("return 90;"));
        Story.ofFirms(1000).then(x -> x.beside(0)).answers("an empty text is one, too", 0,
                x -> x.tried(0, 0));
        Check.says("Promise 12", "NONE: a FAULT (none are beside then)");
        Story fault = Story.of(first).tape("return 80;lag");
        fault.answers("a FAULT", NONE, x -> x.beside(13));
        fault.then(x -> x.beside(13));
        fault.answers("none are beside", 0, x -> x.count(8));
        fault.answers("none is tried", -2_000_000_000_000L, x -> x.tried(0, 0));
        fault.answers("none can be put by", NONE, x -> x.putBy());
        fault.answers("the tape is empty", 0, x -> x.count(9));
        fault.answers("its place", 10, x -> x.fault());
        Check.says("Promise 12", "-2 likewise.");
        Story.world().bounds("beside", -2, (x, a) -> x.beside(a[0]), new int[] {7},
                new int[] {0, 20});
        new Story().bounds("beside of an empty tape", -2, (x, a) -> x.beside(a[0]),
                new int[] {0}, new int[] {0, 0});
    }

    private static void promise13() {
        Check.says("Promise 13", "The FAULT's place of the latest rules() or beside() that was a"
                + " number or NONE");
        Story s = Story.ofFirms(5).rules(0, "log lag;");
        s.answers("of rules", 4, x -> x.fault());
        Story.of(s).beside("return;").answers("of beside", 6, x -> x.fault());
        Story.of(s).beside("return;").rules(0, "$").answers("of rules again", 0, x -> x.fault());
        List<Story.Call> others = new ArrayList<>();
        others.add(x -> x.rules(-1, 0));
        others.add(x -> x.rules(1, 0));
        others.add(x -> x.rules(0, 3));
        others.add(x -> x.beside(-1));
        others.add(x -> x.beside(1));
        for (Story.Call other : others) {
            Story.of(s).then(other).answers("-2 keeps it", 4, x -> x.fault());
        }
        Story full = Story.ofFirms(5);
        for (int i = 0; i < 8; i++) {
            full.rules(0, "log 1;");
        }
        full.beside("log lag;");
        Story.of(full).then(x -> x.rules(0, 0)).answers("-3 keeps it", 4, x -> x.fault());
        Check.says("Promise 13", "NONE: it had none.");
        new Story().answers("none yet", NONE, x -> x.fault());
        Story.of(s).rules(0, "log 5;").answers("none by rules", NONE, x -> x.fault());
        Story.of(s).beside("log 5;").answers("none by beside", NONE, x -> x.fault());
        Story.of(s).then(x -> x.rules(0, 0)).answers("none by no bytes", NONE, x -> x.fault());
    }
}
