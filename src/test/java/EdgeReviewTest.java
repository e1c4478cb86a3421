/**
 * The edges of which RULES a REVIEW has and which of them hold, a test for each sentence: what
 * Terms 2 say of REVIEWS, and Promises 14 and 15.
 */
final class EdgeReviewTest {
    private static final int NONE = -1;

    private EdgeReviewTest() {
    }

    public static void main(String[] args) {
        taken();
        ofAReview();
        asDecided();
        theLastRuleHolds();
        yearAndFirm();
        homes();
        homesAsKnown();
        worth();
        late();
        without();
        quarrel();
        promise14();
        promise15();
        Check.end();
    }

    private static void reviews(String name, Story s, int first, int second, int third) {
        s.answers(name + ": REVIEW 0", first, x -> x.review(0, 0));
        s.answers(name + ": REVIEW 1", second, x -> x.review(1, 0));
        s.answers(name + ": REVIEW 2", third, x -> x.review(2, 0));
    }

    private static void taken() {
        Check.says("Terms 2", "Taken (up to 8) it's for REVIEWS from one on, KNOWN from TODAY.");
        reviews("from 0 on", new Story().rules(0, ""), 0, 0, 0);
        reviews("from 1 on", new Story().rules(1, ""), NONE, 0, 0);
        reviews("from 2 on", new Story().rules(2, ""), NONE, NONE, 0);
        Story s = new Story();
        for (int i = 0; i < 8; i++) {
            int number = i;
            s.answers("the next one", number, x -> x.rules(0, 0));
            s.rules(0, "");
            s.answers("it is the REVIEW's", number, x -> x.review(0, 0));
        }
        s.answers("the ninth", -3, x -> x.rules(0, 0));
        s.then(x -> x.rules(0, 0));
        s.answers("8 are there", 8, x -> x.count(7));
        s.answers("the eighth is the REVIEW's", 7, x -> x.review(0, 0));
        reviews("KNOWN from 1", new Story().day(1).rules(0, ""), NONE, 0, 0);
        reviews("KNOWN from 500", new Story().day(500).rules(0, ""), NONE, 0, 0);
        reviews("KNOWN from 501", new Story().day(501).rules(0, ""), NONE, NONE, 0);
        reviews("KNOWN from 1000", new Story().day(1000).rules(0, ""), NONE, NONE, 0);
        reviews("KNOWN from 1001", new Story().day(1001).rules(0, ""), NONE, NONE, NONE);
    }

    private static void ofAReview() {
        Check.says("Terms 2", "Of a REVIEW: of those KNOWN by the DAY on which it's decided, for"
                + " REVIEWS up to it, those from the latest one, of one those told last; none.");
        reviews("none", new Story(), NONE, NONE, NONE);
        reviews("of one those told last", new Story().rules(1, "").rules(1, ""), NONE, 1, 1);
        reviews("from the latest one", new Story().rules(2, "").rules(1, ""), NONE, 1, 0);
        reviews("the latest one told ahead", new Story().rules(1, "").rules(0, ""), 1, 0, 0);
        reviews("each its own", new Story().rules(2, "").rules(1, "").rules(0, ""), 2, 1, 0);
        reviews("told last of each", new Story().rules(2, "").rules(1, "").rules(0, "")
                .rules(2, "").rules(0, ""), 4, 1, 3);
        reviews("the day of REVIEW 1", new Story().rules(0, "").day(500).rules(1, ""), 0, 1, 1);
        reviews("a day later", new Story().rules(0, "").day(501).rules(1, ""), 0, 0, 1);
        // Those from REVIEW 1 on come too late for it; REVIEW 2 has them, not those told last.
        reviews("the latest one of those KNOWN", new Story().day(501).rules(1, "").day(502)
                .rules(0, ""), NONE, NONE, 0);
        reviews("the day of REVIEW 2", new Story().rules(1, "").day(1000).rules(1, ""), NONE, 0, 1);
        reviews("the day behind it", new Story().rules(1, "").day(1001).rules(1, ""), NONE, 0, 0);
    }

    /** Which statement holds goes by the same RULES, as do the LINES. */
    private static void asDecided() {
        Check.says("Terms 2", "those KNOWN by the DAY on which it's decided");
        for (int review = 0; review < 3; review++) {
            int day = 500 * review;
            for (int year = 5 * review; year < 5 * review + 5; year++) {
                int y = year;
                Story on = Story.ofFirms(1000).day(day).rules(review, "return 5;");
                on.answers("told on its day: it holds", 0, x -> x.holds(0, y, 3, 0));
                on.answers("told on its day: its LINE", 5, x -> x.line(0, y, 0, 4));
                Story behind = Story.ofFirms(1000).day(day + 1).rules(review, "return 5;");
                behind.answers("told a day later: none holds", NONE, x -> x.holds(0, y, 3, 0));
                behind.answers("told a day later: no LINE", 0, x -> x.line(0, y, 1499, 4));
            }
        }
    }

    private static void theLastRuleHolds() {
        Check.says("Terms 2", "For a FIRM and a YEAR the last RULE of each kind (and HEAD, OUTPUT)"
                + " holds whose \"unless\" doesn't");
        Story s = Story.ofFirms(1, 1).rules(0, "log 1;log 2;log 3 unless firm=0;log 4 unless"
                + " year<2;wear 1;log 5 unless year<9;");
        int[][] due = {{1, 1, 3, 3, 5}, {2, 2, 3, 3, 5}};
        int[] years = {0, 1, 2, 8, 9};
        for (int firm = 0; firm < 2; firm++) {
            for (int i = 0; i < years.length; i++) {
                int f = firm;
                int y = years[i];
                s.answers("log for " + f + " in " + y, due[f][i], x -> x.holds(f, y, 8, 0));
            }
        }
        s.answers("wear is of another kind", 4, x -> x.holds(0, 0, 5, 0));
        s.answers("none of a kind", NONE, x -> x.holds(0, 0, 3, 0));
        Story.ofFirms(1).rules(0, "log 1 unless year<15;").answers("none whose unless doesn't hold",
                NONE, x -> x.holds(0, 14, 8, 0));
        Story heads = Story.ofFirms(1).rules(0, "allow pipes plan 1;allow run plan 2;share run 1 1;"
                + "allow pipes mean 0 3;share other 1 1;target 1 more 1 step 1 coin 1 dead 1 cap 1;"
                + "target 2 more 1 step 1 coin 1 dead 1 cap 1;target 1 less 1 step 1 coin 1 dead 1"
                + " cap 1;");
        int[][] places = {{1, 3, NONE, NONE}, {2, NONE, NONE, 4}, {NONE, 7, 6}};
        for (int kind = 0; kind < 3; kind++) {
            for (int of = 0; of < places[kind].length; of++) {
                int k = kind;
                int o = of;
                heads.answers("kind " + k + " of " + o, places[k][o], x -> x.holds(0, 0, k, o));
            }
        }
    }

    /** A word of a test is that large for a FIRM in a YEAR: told by each sign at its edges. */
    private static void is(Story s, int firm, int year, String word, long value) {
        for (long n = value - 1; n <= value + 1; n++) {
            if (n < 0 || n > 99999) {
                continue;
            }
            is(s, firm, year, word + "<" + n, value < n);
            is(s, firm, year, word + ">" + n, value > n);
            is(s, firm, year, word + "=" + n, value == n);
        }
    }

    /** The RULES are told ahead of all else, on DAY 0: all REVIEWS have them. */
    private static void is(Story s, int firm, int year, String test, boolean due) {
        Story all = new Story().rules(0, "log 1 unless " + test + ";").go(s);
        all.answers("unless " + test + " for " + firm + " in " + year, due ? NONE : 0,
                x -> x.holds(firm, year, 8, 0));
    }

    private static void yearAndFirm() {
        Check.says("Terms 2", "(year; firm: its number;");
        Story s = Story.ofFirms(1, 1, 1, 1, 1, 1, 1, 1, 1, 1, 1);
        for (int year : new int[] {0, 1, 4, 5, 9, 10, 14}) {
            is(s, 0, year, "year", year);
        }
        for (int firm : new int[] {0, 1, 9, 10}) {
            is(s, firm, 3, "firm", firm);
        }
        is(s, 10, 14, "year<99999", true);
        is(s, 10, 14, "firm<99999", true);
        is(s, 0, 0, "year<00000", false);
    }

    private static void homes() {
        Check.says("Terms 2", "homes: of all kinds together,");
        Story s = Story.ofFirms(1, 1);
        is(s, 0, 3, "homes", 0);
        is(Story.of(s).fact(0, 3, 11, 7), 0, 3, "homes", 7);
        is(Story.of(s).fact(0, 3, 12, 7), 0, 3, "homes", 7);
        is(Story.of(s).fact(0, 3, 13, 7), 0, 3, "homes", 7);
        is(Story.of(s).fact(0, 3, 11, 1).fact(0, 3, 12, 20).fact(0, 3, 13, 300), 0, 3, "homes",
                321);
        is(Story.of(s).fact(0, 3, 11, 9999).fact(0, 3, 12, 9999).fact(0, 3, 13, 9999), 0, 3,
                "homes", 29997);
        is(Story.of(s).fact(0, 3, 10, 5).fact(0, 3, 14, 6), 0, 3, "homes", 0);
        is(Story.of(s).fact(1, 3, 11, 5), 0, 3, "homes", 0);
        Check.says("Terms 2", "of the latest YEAR up to that one that has any;");
        Story years = Story.of(s).fact(0, 0, 11, 5).fact(0, 2, 12, 6).fact(0, 4, 13, 7);
        int[] due = {5, 5, 6, 6, 7, 7, 7, 7, 7, 7, 7, 7, 7, 7, 7};
        for (int year = 0; year < 15; year++) {
            is(years, 0, year, "homes", due[year]);
        }
        is(Story.of(s).fact(0, 4, 13, 7), 0, 3, "homes", 0);
        is(Story.of(s).fact(0, 2, 11, 5).fact(0, 2, 12, 6).fact(0, 3, 12, 9), 0, 3, "homes", 9);
        // A year of which a 0 was told has any.
        is(Story.of(s).fact(0, 2, 11, 5).fact(0, 3, 11, 0), 0, 3, "homes", 0);
    }

    private static void homesAsKnown() {
        Check.says("Terms 2", "as KNOWN as the REVIEW is decided,");
        Story s = Story.ofFirms(1).fact(0, 4, 11, 5).day(1).fact(0, 4, 11, 6);
        is(s, 0, 4, "homes", 5);
        is(s, 0, 5, "homes", 6);
        Story one = Story.of(s).day(500).fact(0, 5, 11, 8).day(501).fact(0, 5, 11, 9);
        one.fact(0, 6, 11, 10);
        is(one, 0, 5, "homes", 8);
        is(one, 0, 6, "homes", 8);
        is(one, 0, 9, "homes", 8);
        is(one, 0, 10, "homes", 10);
        Story two = Story.of(one).day(1000).fact(0, 10, 11, 11).day(1001).fact(0, 10, 11, 12);
        is(two, 0, 10, "homes", 11);
        is(two, 0, 14, "homes", 11);
    }

    private static void worth() {
        Check.says("Terms 2", "worth: WORTH as the YEAR BEGINS;");
        is(Story.ofFirms(0), 0, 0, "worth", 0);
        is(Story.ofFirms(1), 0, 14, "worth", 1);
        is(Story.ofFirms(99998), 0, 0, "worth", 99998);
        is(Story.ofFirms(99999), 0, 0, "worth", 99999);
        is(Story.ofFirms(100000), 0, 0, "worth", 100000);
        is(Story.ofFirms(999999), 0, 0, "worth", 999999);
        is(Story.ofFirms(999999), 0, 0, "worth>99999", true);
        Story done = Story.ofFirms(100).work(0, 7, 0).day(399).done(0);
        is(done, 0, 3, "worth", 100);
        is(done, 0, 4, "worth", 107);
        // WORTH goes by the RULES of the YEARS ahead, whose tests may ask for it.
        Story s = Story.ofFirms(1000).rules(0, "index 150 unless worth>2000;log 1 unless worth<0;");
        s.answers("1500", 1500, x -> x.worth(0, 1));
        s.answers("2250", 2250, x -> x.worth(0, 2));
        s.answers("2250 still", 2250, x -> x.worth(0, 3));
        Story below = Story.ofFirms(1000).rules(0, "index 50;wear 100;log 1 unless worth<0;"
                + "tilt 1 unless worth=0;back 1 unless worth>0;");
        below.answers("-500 is below 0", NONE, x -> x.holds(0, 1, 8, 0));
        below.answers("-500 isn't 0", 3, x -> x.holds(0, 1, 7, 0));
        below.answers("-500 isn't above 0", 4, x -> x.holds(0, 1, 6, 0));
        below.answers("1000 isn't below 0", 2, x -> x.holds(0, 0, 8, 0));
    }

    private static void late() {
        Check.says("Terms 2",
                "late: WORKS of it due ahead of that YEAR that weren't DONE as it BEGAN).");
        Story s = Story.ofFirms(1, 1);
        is(s, 0, 4, "late", 0);
        is(Story.of(s).work(0, 9, 4), 0, 4, "late", 0);
        is(Story.of(s).work(0, 9, 3), 0, 4, "late", 1);
        is(Story.of(s).work(0, 9, 0), 0, 4, "late", 1);
        is(Story.of(s).work(0, 9, 0), 0, 14, "late", 1);
        is(Story.of(s).work(1, 9, 0), 0, 4, "late", 0);
        is(Story.of(s).work(0, 9, 0).work(0, 9, 3).work(0, 9, 5), 0, 4, "late", 2);
        is(Story.of(s).work(0, 9, 3).day(399).done(0), 0, 4, "late", 0);
        is(Story.of(s).work(0, 9, 3).day(400).done(0), 0, 4, "late", 1);
        is(Story.of(s).work(0, 9, 3).day(401).done(0), 0, 4, "late", 1);
        is(Story.of(s).work(0, 9, 3).day(499).done(0), 0, 5, "late", 0);
        is(Story.of(s).work(0, 9, 3).day(500).done(0), 0, 5, "late", 1);
        is(Story.of(s).work(0, 9, 3).done(0), 0, 4, "late", 0);
        is(Story.of(s).work(0, 9, 4).day(400).done(0), 0, 4, "late", 0);
        Story all = Story.of(s);
        for (int i = 0; i < 40; i++) {
            all.work(0, 9, 0);
        }
        is(all, 0, 1, "late", 40);
        is(Story.of(all).done(0).done(39), 0, 1, "late", 38);
    }

    private static void without() {
        Check.says("Terms 2",
                "Without: RETURN 0, INDEX 100, WEAR 0, BACK 0, LOG 0, no tilt.");
        String[] texts = {"", "share run 5 5;", "return 90 unless year<15;index 50 unless year<15;"
            + "wear 90 unless year<15;back 90 unless year<15;log 100 unless year<15;"
            + "tilt 0 unless year<15;"};
        for (String text : texts) {
            withoutAny(Story.ofFirms(1000).rules(0, text));
        }
        withoutAny(Story.ofFirms(1000));
    }

    private static void withoutAny(Story s) {
        s.work(0, 300, 0).bench(0, 0, 1, 99999).log(0, 1, 1).work(0, 70, 1);
        s.answers("RETURN 0", 0, x -> x.line(0, 1, 0, 4));
        s.answers("INDEX 100 and WEAR 0", 1000, x -> x.worth(0, 14));
        s.answers("BACK 0", 0, x -> x.line(0, 1, 0, 6));
        s.answers("LOG 0", 1, x -> x.line(0, 1, 0, 14));
        s.answers("no tilt: up", 100070, x -> x.bills(0, 1, 0, 0));
        s.answers("no tilt: down", 0, x -> x.bills(0, 2, 0, 0));
        s.answers("no tilt: nothing carried", 0, x -> x.bills(0, 1, 0, 1));
        Story.of(s).work(0, 5, 2).answers("no tilt isn't tilt 0", 5, x -> x.bills(0, 2, 0, 0));
    }

    private static void quarrels(String text, int first, int second) {
        Story s = new Story().rules(0, text);
        s.answers("QUARREL's first of " + text, first, x -> x.review(0, 2));
        s.answers("QUARREL's second of " + text, second, x -> x.review(0, 3));
    }

    private static void quarrel() {
        Check.says("Terms 2", "QUARREL of a REVIEW: the first two statements (least first, then"
                + " least second) of one kind (and HEAD, OUTPUT) without \"unless\".");
        quarrels("", NONE, NONE);
        quarrels("log 1;", NONE, NONE);
        quarrels("log 1;log 1;", 0, 1);
        quarrels("log 1;wear 1;log 1;", 0, 2);
        quarrels("log 1;wear 1;wear 1;log 1;", 0, 3);
        quarrels("back 1;log 1;wear 1;wear 1;log 1;", 1, 4);
        quarrels("log 1;log 2;log 3;", 0, 1);
        quarrels("log 1 unless year<5;log 2;log 3;", 1, 2);
        quarrels("log 1;log 2 unless year<5;log 3;", 0, 2);
        quarrels("log 1;log 2;log 3 unless year<5;", 0, 1);
        quarrels("log 1;log 2 unless year<5;log 3 unless year<5;", NONE, NONE);
        quarrels("log 1 unless year<5;wear 1;log 2;wear 1 unless year<5;", NONE, NONE);
        String[] kinds = {"allow run plan 1;", "allow pipes plan 1;", "allow power plan 1;",
            "allow other plan 1;", "share run 1 1;", "share pipes 1 1;", "share power 1 1;",
            "share other 1 1;", "target 0 more 1 step 1 coin 1 dead 1 cap 1;",
            "target 1 more 1 step 1 coin 1 dead 1 cap 1;",
            "target 2 more 1 step 1 coin 1 dead 1 cap 1;", "return 1;", "index 100;", "wear 1;",
            "back 1;", "tilt 1;", "log 1;"};
        quarrels(String.join("", kinds), NONE, NONE);
        for (int i = 0; i < kinds.length; i++) {
            quarrels(String.join("", kinds) + kinds[i], i, kinds.length);
            quarrels(kinds[i] + String.join("", kinds), 0, i + 1);
        }
        quarrels("allow run plan 1;allow run best 0 1;", 0, 1);
        quarrels("target 0 more 1 step 1 coin 1 dead 1 cap 1;"
                + "target 0 less 9 step 9 coin 9 dead 9 cap 9;", 0, 1);
    }

    private static void promise14() {
        Check.says("Promise 14", "Which RULES a REVIEW has (what 0), how many statements (1),"
                + " QUARREL's first (2), second (3).");
        Story s = Story.ofFirms(1).rules(0, "log 1;").rules(1, "log 1;wear 1;log 2;");
        s.rules(0, "wear 1;back 1;log 1;log 2;log 3;");
        int[][] due = {{2, 5, 2, 3}, {1, 3, 0, 2}, {1, 3, 0, 2}};
        for (int review = 0; review < 3; review++) {
            for (int what = 0; what < 4; what++) {
                int r = review;
                int k = what;
                s.answers("review " + r + " " + k, due[r][k], x -> x.review(r, k));
            }
        }
        Story.of(s).rules(1, "").answers("no statements", 0, x -> x.review(1, 1));
        Check.says("Promise 14", "NONE: none, none such.");
        s.bounds("review", NONE, (x, a) -> x.review(a[0], a[1]), new int[] {0, 0},
                new int[] {0, 2}, new int[] {0, 3});
        for (int what = 0; what < 4; what++) {
            int k = what;
            Story.ofFirms(1).rules(1, "log 1;log 1;").answers("none, what " + k, NONE,
                    x -> x.review(0, k));
        }
        new Story().rules(0, "log 1;wear 1;").answers("no QUARREL", NONE, x -> x.review(0, 2));
        new Story().rules(0, "log 1;wear 1;").answers("nor its second", NONE, x -> x.review(0, 3));
    }

    private static void promise15() {
        Check.says("Promise 15", "Which statement holds for a FIRM and YEAR: allow (kind 0) of a"
                + " HEAD, share (1) of a HEAD, target (2) of an OUTPUT, 3 return, 4 index, 5 wear,"
                + " 6 back, 7 tilt, 8 log (of isn't asked of 3 to 8).");
        StringBuilder text = new StringBuilder();
        int[][] places = new int[9][4];
        int place = 0;
        String[] single = {"log 1;", "tilt 1;", "back 1;", "wear 1;", "index 100;", "return 1;"};
        for (int i = 0; i < single.length; i++) {
            text.append(single[i]);
            java.util.Arrays.fill(places[8 - i], place++);
        }
        for (int of = 0; of < 3; of++) {
            text.append("target ").append(of).append(" less 1 step 1 coin 1 dead 1 cap 1;");
            places[2][of] = place++;
        }
        String[] heads = {"run", "pipes", "power", "other"};
        for (int h = 3; h >= 0; h--) {
            text.append("share ").append(heads[h]).append(" 1 1;allow ").append(heads[h])
                    .append(" plan 1;");
            places[1][h] = place++;
            places[0][h] = place++;
        }
        Story s = Story.ofFirms(1, 1, 1).rules(0, text.toString());
        for (int kind = 0; kind < 9; kind++) {
            for (int of = 0; of < (kind == 2 ? 3 : 4); of++) {
                int k = kind;
                int o = of;
                s.answers("kind " + k + " of " + o, places[k][o], x -> x.holds(2, 14, k, o));
            }
        }
        for (int kind = 3; kind < 9; kind++) {
            int k = kind;
            for (int of : new int[] {-1, 4, 17, Integer.MIN_VALUE, Integer.MAX_VALUE}) {
                s.answers("of isn't asked of " + k, places[k][0], x -> x.holds(0, 0, k, of));
            }
        }
        Check.says("Promise 15", "NONE: none, none such.");
        for (int kind = 0; kind < 3; kind++) {
            int k = kind;
            s.bounds("holds of kind " + k, NONE, (x, a) -> x.holds(a[0], a[1], k, a[2]),
                    new int[] {0, 0, 0}, new int[] {0, 2}, new int[] {0, 14},
                    new int[] {0, k == 2 ? 2 : 3});
        }
        s.bounds("holds", NONE, (x, a) -> x.holds(a[0], a[1], a[2], 0), new int[] {0, 0, 3},
                new int[] {0, 2}, new int[] {0, 14}, new int[] {0, 8});
        for (int kind = 0; kind < 9; kind++) {
            int k = kind;
            Story.ofFirms(1).rules(1, text.toString()).answers("none in REVIEW 0", NONE,
                    x -> x.holds(0, 4, k, 0));
            Story.ofFirms(1).rules(0, "").answers("none of kind " + k, NONE,
                    x -> x.holds(0, 0, k, 0));
        }
    }
}
