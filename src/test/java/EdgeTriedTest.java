/**
 * The edges of what is tried beside, a test for each sentence: what Terms 4 say of it, and
 * Promises 23, 24, 27, 28, 29 and 32.
 */
final class EdgeTriedTest {
    private static final int NONE = -1;
    private static final long NO_COINS = -2_000_000_000_000L;
    private static final int MIN = Integer.MIN_VALUE;
    private static final int MAX = Integer.MAX_VALUE;

    private EdgeTriedTest() {
    }

    public static void main(String[] args) {
        beside();
        promise23();
        hole();
        promise24();
        putBy();
        promise27();
        borne();
        promise28();
        best();
        promise29();
        twice();
        promise32();
        Check.end();
    }

    /** RULES from REVIEW 0 on, told on DAY 0, and a FIRM. */
    private static Story by(String rules, int worth) {
        return new Story().rules(0, rules).then(x -> x.firm(worth));
    }

    private static void tries(String name, Story s, int year, long due) {
        s.answers(name, due, x -> x.tried(0, year));
    }

    private static void beside() {
        Check.says("Terms 4", "BESIDE: other RULES (not in force), tried in place of a REVIEW's own:"
                + " REVENUE by them.");
        Story s = by("return 10;index 110;", 1000).beside("return 100;");
        for (int year = 0; year < 5; year++) {
            tries("INDEX is none of theirs, YEAR " + year, s, year, 100);
        }
        s.answers("not in force", 10, x -> x.revenue(0, 0, 0));
        s.answers("WORTH as it was", 1100, x -> x.worth(0, 1));
        s.answers("the REVIEW's as they were", 1, x -> x.holds(0, 0, 4, 0));
        Story.of(s).then(x -> x.tried(0, 3)).isAs("nothing is changed by it", s);
        // In REVIEW 1 WORTH has risen by REVIEW 0's own RULES, and rises no more.
        tries("YEAR 5", s, 5, 161);
        tries("YEAR 9", s, 9, 161);
        s.answers("WORTH of YEAR 5", 1610, x -> x.worth(0, 5));
        tries("YEAR 10, by REVIEW 1's own ahead", s, 10, 259);
        Story none = Story.ofFirms(1000).beside("return 100;");
        tries("a REVIEW without RULES of its own", none, 14, 100);
        // What comes from the YEAR ahead goes by the RULES of that YEAR's REVIEW.
        Story ahead = by("share run 50 50;target 0 more 0 step 1 coin 1 dead 0 cap 99;back 40;", 0)
                .fact(0, 4, 3, 60).fact(0, 4, 14, 7).work(0, 100, 3)
                .fact(0, 5, 3, 80).fact(0, 5, 14, 9)
                .beside("back 90;target 0 more 0 step 1 coin 2 dead 0 cap 99;");
        tries("YEAR 5: 30 and 7, and 60 that are left of 100", ahead, 5, 30 + 7 - 60);
        tries("YEAR 6: 80 and 18", ahead, 6, 80 + 18);
        ahead.answers("by its own in YEAR 5", 30 + 7 - 40, x -> x.revenue(0, 5, 0));
    }

    private static void promise23() {
        Check.says("Promise 23", "REVENUE by RULES BESIDE (in place of those of the YEAR's REVIEW, as"
                + " KNOWN TODAY).");
        Story s = by("return 10;", 1000).beside("return 100;allow run plan 50;").fact(0, 3, 7, 30);
        tries("all LINES", s, 3, 115);
        Story.of(s).day(40).bench(0, 0, 3, 7).log(0, 3, 2).fact(0, 2, 4, 5)
                .answers("as KNOWN TODAY", 100 + 7 + 2 + 5, x -> x.tried(0, 3));
        Story.of(s).day(1).fact(0, 3, 7, 90).answers("PLANS as the REVIEW is decided", 115,
                x -> x.tried(0, 3));
        Story.of(s).day(400).fact(0, 5, 7, 90).day(501).fact(0, 5, 7, 200)
                .answers("PLANS as REVIEW 1 is decided", 145, x -> x.tried(0, 5));
        Story.of(s).beside("return 200;").answers("the latest", 200, x -> x.tried(0, 3));
        Story.of(s).rules(0, "return 300;").answers("whatever is taken then", 115,
                x -> x.tried(0, 3));
        Story.ofFirms(1, 1000, 5).beside("return 10;return 20 unless not firm=1;").answers(
                "of FIRM 1", 20, x -> x.tried(1, 0));
        Check.says("Promise 23", "-2,000,000,000,000: none are beside, none such.");
        by("return 10;", 1000).answers("none are beside", NO_COINS, x -> x.tried(0, 0));
        Story.of(s).beside("lag;").answers("none by a FAULT", NO_COINS, x -> x.tried(0, 0));
        Story.of(s).then(x -> x.beside(1)).answers("-2 leaves them", 115, x -> x.tried(0, 3));
        Story.world().bounds("tried", NO_COINS, (x, a) -> x.tried(a[0], a[1]), new int[] {0, 0},
                new int[] {0, 2}, new int[] {0, 14});
    }

    /** What the FIRM keeps by HOLE, by which hundredths, and by its COST itself. */
    private static void holes(String name, String rules, int cost, long kept, long by,
            long itself) {
        Story s = by(rules, 0).fact(0, 3, 3, cost);
        long[] due = {kept, by, itself};
        for (int what = 0; what < 3; what++) {
            int k = what;
            s.answers(name + ", what " + k, due[k], x -> x.hole(0, 0, 3, k));
        }
    }

    private static void hole() {
        Check.says("Terms 4", "HOLE of a FIRM, HEAD, YEAR (its \"allow\" is \"plan\", its COST is"
                + " KNOWN TODAY)");
        Story s = by("allow run plan 100;share run 50 50;allow pipes mean 0 100;"
                + "allow power best 0 100;allow other line 0 100;", 0);
        s.answers("COST isn't KNOWN", NO_COINS, x -> x.hole(0, 0, 3, 0));
        Story.of(s).fact(0, 2, 3, 100).answers("COST of another YEAR", NO_COINS,
                x -> x.hole(0, 0, 3, 0));
        Story.of(s).fact(0, 3, 7, 100).answers("PLAN isn't asked", NO_COINS,
                x -> x.hole(0, 0, 3, 0));
        Story.of(s).day(900).fact(0, 3, 3, 100).answers("KNOWN TODAY", 10,
                x -> x.hole(0, 0, 3, 0));
        Story.of(s).fact(0, 3, 3, 100).day(900).fact(0, 3, 3, 200).answers("the last told", 20,
                x -> x.hole(0, 0, 3, 0));
        for (int head = 1; head < 4; head++) {
            int h = head;
            Story.of(s).fact(0, 3, 3 + h, 100).answers("by another mode", NO_COINS,
                    x -> x.hole(0, h, 3, 0));
        }
        by("", 0).fact(0, 3, 3, 100).answers("without allow", NO_COINS, x -> x.hole(0, 0, 3, 0));
        by("allow run plan 100 unless year=3;", 0).fact(0, 3, 3, 100).answers("unless", NO_COINS,
                x -> x.hole(0, 0, 3, 0));
        by("allow run plan 100;allow run mean 0 9;", 0).fact(0, 3, 3, 100).answers("the last allow",
                NO_COINS, x -> x.hole(0, 0, 3, 0));
        by("allow run mean 0 9;allow run plan 100;share run 9 70;", 0).fact(0, 3, 3, 100)
                .answers("the last allow is plan", 14, x -> x.hole(0, 0, 3, 0));
        Check.says("Terms 4", "if its PLAN had been COST times 80, 85, .. 120 hundredths (cut), what"
                + " the FIRM would keep (below 0: bear) by \"share\" and \"allow\" (a BENCH word left"
                + " aside)");
        holes("120", "allow run plan 100;share run 50 50;", 1000, 100, 120, 0);
        holes("120 of 200 hundredths", "allow run plan 200;share run 50 50;", 1000, 700, 120, 500);
        holes("all kept", "allow run plan 100;share run 0 100;", 99999, 19999, 120, 0);
        holes("cut", "allow run plan 100;share run 0 100;", 9, 1, 115, 0);
        holes("cut, then hundredths of it", "allow run plan 99;share run 100 100;", 9, 0, 115, -1);
        holes("COST 0", "allow run plan 100;share run 50 50;", 0, 0, 80, 0);
        holes("COST 1", "allow run plan 100;share run 100 100;", 1, 0, 100, 0);
        holes("below 0: bear", "allow run plan 80;share run 50 10;", 1000, -20, 120, -100);
        holes("below 0 at most", "allow run plan 0;share run 100 10;", 1000, -1000, 80, -1000);
        holes("without share", "allow run plan 100;", 1000, 0, 80, 0);
        holes("hundredths cut towards 0, kept", "allow run plan 100;share run 0 99;", 5, 0, 80, 0);
        holes("hundredths cut towards 0, borne", "allow run plan 0;share run 99 0;", 1, 0, 80, 0);
        // 80 hundredths times 125 are the COST itself, times 124 a little less.
        holes("80 are enough", "allow run plan 125;share run 100 0;", 1000, 0, 80, 0);
        holes("80 aren't enough", "allow run plan 124;share run 100 0;", 1000, 0, 85, 0);
        holes("80 are more than enough", "allow run plan 200;share run 100 0;", 1000, 0, 80, 0);
        holes("the largest", "allow run plan 200;share run 50 100;", 99999, 139997, 120, 99999);
        Story bench = by("allow run plan 100;share run 50 50;", 0).fact(0, 3, 3, 1000)
                .bench(0, 0, 3, 5000);
        bench.answers("a BENCH word left aside", 100, x -> x.hole(0, 0, 3, 0));
        bench.answers("a BENCH word left aside, itself", 0, x -> x.hole(0, 0, 3, 2));
        Story.of(bench).fact(0, 3, 7, 5000).answers("its own PLAN left aside", 100,
                x -> x.hole(0, 0, 3, 0));
        Check.says("Terms 4", "the most, and by which (the least of several).");
        holes("all as much", "allow run plan 100;share run 0 0;", 1000, 0, 80, 0);
        holes("kept from 105 on, the most by 120", "allow run plan 100;share run 9 1;", 1000, 2,
                120, 0);
        holes("1 by 110 and 115, 2 by 120", "allow run plan 100;share run 100 10;", 100, 2, 120, 0);
        holes("several from 100 on", "allow run plan 100;share run 100 0;", 1000, 0, 100, 0);
        holes("several from 85 on", "allow run plan 118;share run 100 0;", 1000, 0, 85, 0);
        holes("several from 115 on", "allow run plan 87;share run 100 0;", 1000, 0, 115, -130);
        holes("120 alone is borne least", "allow run plan 80;share run 100 0;", 100, -4, 120, -20);
        holes("100 to 115, cut, as much, 120 more", "allow run plan 100;share run 50 10;", 60, 1,
                120, 0);
        holes("115 and 120, cut, as much", "allow run plan 100;share run 50 10;", 95, 1, 115, 0);
    }

    private static void promise24() {
        Check.says("Promise 24", "HOLE: what it keeps (what 0), hundredths (1), what it keeps by its"
                + " COST itself told (2).");
        Story s = new Story().rules(0, "allow other plan 110;share other 50 50;")
                .then(x -> x.firm(1)).then(x -> x.firm(1)).then(x -> x.firm(1));
        s.fact(2, 14, 6, 1000);
        long[] due = {160, 120, 50};
        for (int what = 0; what < 3; what++) {
            int k = what;
            s.answers("what " + k, due[k], x -> x.hole(2, 3, 14, k));
        }
        Check.says("Promise 24", "-2,000,000,000,000: none, none such.");
        s.answers("none of another YEAR", NO_COINS, x -> x.hole(2, 3, 13, 0));
        Story all = new Story().rules(0, "allow run plan 100;allow other plan 100;")
                .then(x -> x.firm(1)).then(x -> x.firm(1)).then(x -> x.firm(1));
        all.fact(0, 0, 3, 5).fact(0, 0, 6, 5).fact(2, 0, 3, 5).fact(0, 14, 3, 5);
        all.bounds("hole", NO_COINS, (x, a) -> x.hole(a[0], a[1], a[2], a[3]),
                new int[] {0, 0, 0, 0}, new int[] {0, 2}, new int[] {0, 3}, new int[] {0, 14},
                new int[] {0, 2});
        // COSTS of HEAD 4 would be PLANS: none such, though one is KNOWN.
        all.fact(0, 0, 7, 5).refuses("HEAD 4", NO_COINS, x -> x.hole(0, 4, 0, 0));
    }

    private static void putBy() {
        Check.says("Terms 4", "PUT BY, up to 4: RULES that are beside.");
        Story s = Story.ofFirms(1000);
        for (int i = 0; i < 4; i++) {
            int number = i;
            s.beside("return " + (90 - 10 * i) + ";");
            s.answers("the next one", number, x -> x.putBy());
            s.putBy();
            s.answers("it is the cheapest", number, x -> x.best(0, 0));
        }
        s.beside("return 1;");
        s.answers("the fifth", NONE, x -> x.putBy());
        s.putBy();
        s.answers("4 are there", 4, x -> x.count(10));
        s.answers("the fifth isn't", 3, x -> x.best(0, 0));
        Story stays = Story.ofFirms(1000).beside("return 5;").putBy().beside("return 9;");
        stays.answers("PUT BY stays when others are beside", 0, x -> x.best(0, 0));
        stays.putBy().answers("the one PUT BY first is the cheaper one", 0, x -> x.best(0, 0));
        // Amending ones are PUT BY as they were then.
        Story amends = by("return 5;", 1000).beside("amend;return 3;").putBy().rules(0, "return 1;")
                .beside("amend;").putBy();
        amends.answers("the second is cheaper", 1, x -> x.best(0, 0));
    }

    private static void promise27() {
        Check.says("Promise 27", "The RULES BESIDE are PUT BY: their number.");
        Story s = Story.ofFirms(1000).beside("return 5;");
        for (int i = 0; i < 4; i++) {
            int number = i;
            s.answers("the same again", number, x -> x.putBy());
            s.putBy();
            s.answers("they are beside still", 5, x -> x.tried(0, 0));
        }
        Check.says("Promise 27", "NONE: none are beside, 4 are there.");
        s.refuses("4 are there", NONE, x -> x.putBy());
        Story.ofFirms(1000).refuses("none are beside", NONE, x -> x.putBy());
        Story.of(s).beside("lag;").refuses("none are beside, 4 are there", NONE, x -> x.putBy());
        Story fault = Story.ofFirms(1000).beside("return 5;").putBy().beside("lag;");
        fault.refuses("none are beside by a FAULT", NONE, x -> x.putBy());
        fault.answers("the one PUT BY is there", 0, x -> x.best(0, 0));
    }

    private static void bears(String name, Story s, long due) {
        s.answers(name, due, x -> x.borne(0, 1));
    }

    private static void borne() {
        Check.says("Terms 4", "BORNE of a FIRM in a REVIEW, as KNOWN TODAY: of all HEADS and YEARS"
                + " with a COST what it bears less what it keeps.");
        Story s = by("share run 50 40;share pipes 50 40;share power 50 40;share other 50 40;", 0);
        bears("nothing", s, 0);
        for (int year = 0; year < 15; year++) {
            for (int head = 0; head < 4; head++) {
                bears("COST of YEAR " + year, Story.of(s).fact(0, year, 3 + head, 60),
                        year / 5 == 1 ? 30 : 0);
                bears("ALLOWED of YEAR " + year, Story.of(s).bench(0, head, year, 60), 0);
                bears("kept of YEAR " + year, Story.of(s).bench(0, head, year, 60)
                        .fact(0, year, 3 + head, 0), year / 5 == 1 ? -24 : 0);
            }
        }
        Story all = Story.of(s).fact(0, 5, 3, 60).fact(0, 9, 6, 100).bench(0, 1, 7, 90)
                .fact(0, 7, 4, 40).bench(0, 2, 8, 500);
        bears("together", all, 30 + 50 - 20);
        bears("each is cut", Story.of(s).fact(0, 5, 3, 1).fact(0, 6, 3, 1).fact(0, 7, 3, 3), 1);
        bears("each is cut below 0", Story.of(s).bench(0, 0, 5, 2).fact(0, 5, 3, 0)
                .bench(0, 0, 6, 2).fact(0, 6, 3, 0).bench(0, 0, 7, 4).fact(0, 7, 3, 0), -1);
        bears("of another FIRM", Story.of(s).then(x -> x.firm(0)).then(x -> x.fact(1, 5, 3, 60)),
                0);
        bears("without share", by("", 0).fact(0, 5, 3, 60), 0);
        bears("as ALLOWED by plan", by("share run 50 40;allow run plan 100;", 0).fact(0, 5, 7, 20)
                .fact(0, 5, 3, 60), 20);
        bears("as KNOWN TODAY", Story.of(all).day(900).fact(0, 5, 3, 80).bench(0, 3, 9, 40),
                40 + 30 - 20);
        bears("by the RULES of the YEAR", by("share run 50 0 unless year=6;", 0).fact(0, 5, 3, 10)
                .fact(0, 6, 3, 10), 5);
        Story kinds = by("share run 10 0;allow other plan 50;target 0 more 60 step 1 coin 1 dead 0"
                + " cap 9;", 0);
        for (int what = 0; what < 17; what++) {
            if (what < 3 || what > 6) {
                kinds.fact(0, 7, what, 100);
            }
        }
        bears("no COST is among them", kinds, 0);
        bears("one is", Story.of(kinds).fact(0, 7, 3, 100), 10);
        Story most = by("share run 100 0;share pipes 100 0;share power 100 0;share other 100 0;", 0);
        for (int year = 5; year < 10; year++) {
            for (int head = 0; head < 4; head++) {
                most.fact(0, year, 3 + head, 99999);
            }
        }
        bears("the most", most, 1999980);
    }

    private static void promise28() {
        Check.says("Promise 28", "BORNE.");
        Story s = new Story().rules(0, "share run 10 0;").rules(1, "share run 20 0;")
                .rules(2, "share run 30 0;").then(x -> x.firm(1)).then(x -> x.firm(1))
                .then(x -> x.firm(1));
        for (int year = 0; year < 15; year++) {
            s.fact(2, year, 3, 100);
        }
        for (int review = 0; review < 3; review++) {
            int r = review;
            s.answers("REVIEW " + r, 50 + 50 * r, x -> x.borne(2, r));
            s.answers("of FIRM 0", 0, x -> x.borne(0, r));
        }
        Check.says("Promise 28", "-2,000,000,000,000: none such.");
        s.bounds("borne", NO_COINS, (x, a) -> x.borne(a[0], a[1]), new int[] {0, 0},
                new int[] {0, 2}, new int[] {0, 2});
    }

    private static Story put(Story s, String... rules) {
        for (String text : rules) {
            s.beside(text).putBy();
        }
        return s;
    }

    private static void bests(String name, Story s, int review, int bound, int due) {
        s.answers(name, due, x -> x.best(review, bound));
    }

    private static void best() {
        Check.says("Terms 4", "BEST of a REVIEW with a bound: of those PUT BY, in place of its RULES,"
                + " by which no FIRM's BORNE is above the bound,");
        for (int firm = 0; firm < 3; firm++) {
            Story s = put(Story.ofFirms(1000, 1000, 1000).fact(firm, 7, 4, 300),
                    "share pipes 50 0;", "return 1;");
            bests("BORNE 150 of FIRM " + firm + " by 149", s, 1, 149, 1);
            bests("BORNE 150 of FIRM " + firm + " by 150", s, 1, 150, 0);
            bests("in another REVIEW", s, 2, 149, 0);
        }
        Story kept = put(Story.ofFirms(0).bench(0, 0, 5, 300).fact(0, 5, 3, 0), "share run 0 90;");
        bests("what is kept is below 0", kept, 1, 0, 0);
        Story both = put(Story.ofFirms(0).fact(0, 5, 3, 100).fact(0, 9, 6, 100),
                "share run 50 0;share other 50 0;");
        bests("YEARS and HEADS together, by 99", both, 1, 99, NONE);
        bests("YEARS and HEADS together, by 100", both, 1, 100, 0);
        Story each = put(Story.ofFirms(0, 0).fact(0, 5, 3, 100).fact(1, 5, 3, 100),
                "share run 50 0;");
        bests("FIRMS one by one", each, 1, 50, 0);
        Story own = put(by("share run 100 0;", 0).fact(0, 5, 3, 100), "");
        bests("in place of its RULES", own, 1, 0, 0);
        Story ahead = put(by("index 90;", 1000), "return 10 unless worth>999;", "return 1;");
        bests("the RULES of the REVIEWS ahead are their own", ahead, 1, 0, 1);
        bests("in REVIEW 0 itself WORTH stays as it was", ahead, 0, 0, 0);
        Story risen = put(by("index 150;", 999), "return 10 unless worth>999;", "return 1;");
        bests("WORTH has risen by them", risen, 1, 0, 0);
        Story today = put(Story.ofFirms(0).fact(0, 5, 3, 100).day(600).fact(0, 5, 3, 40),
                "share run 50 0;");
        bests("as KNOWN TODAY", today, 1, 20, 0);
        Check.says("Terms 4", "the one by which all FIRMS' REVENUES of its YEARS together (as KNOWN"
                + " TODAY) are least; of several the first.");
        Story s = Story.ofFirms(1000, 2000);
        bests("the least is the first", put(Story.of(s), "return 1;", "return 2;"), 0, 0, 0);
        bests("the least is the second", put(Story.of(s), "return 2;", "return 1;"), 0, 0, 1);
        bests("of several the first", put(Story.of(s), "return 2;", "return 1;", "return 1;",
                "return 1;"), 0, 0, 1);
        bests("all as much", put(Story.of(s), "return 1;", "return 1;"), 0, 0, 0);
        bests("the least is the last", put(Story.of(s), "return 4;", "return 3;", "return 2;",
                "return 1;"), 0, 0, 3);
        for (int year = 0; year < 15; year++) {
            // One YEAR of one FIRM makes the second the cheaper one, if it's one of the REVIEW's.
            Story one = put(Story.of(s), "return 10;", "return 10 unless year=" + year
                    + " and firm=1;");
            for (int review = 0; review < 3; review++) {
                bests("YEAR " + year + " in REVIEW " + review, one, review, 0,
                        year / 5 == review ? 1 : 0);
            }
        }
        bests("FIRMS together", put(Story.of(s), "return 10 unless firm=1;",
                "return 6 unless firm=0;"), 0, 0, 0);
        bests("FIRMS together, the other way round", put(Story.of(s), "return 10 unless firm=1;",
                "return 4 unless firm=0;"), 0, 0, 1);
        for (int review = 0; review < 3; review++) {
            // What is EARNED, or SHARED, in the last YEAR goes to a YEAR of the next REVIEW.
            Story last = put(Story.ofFirms(1000).fact(0, 5 * review + 4, 14, 9).fact(0,
                    5 * review + 4, 3, 900), "target 0 more 0 step 1 coin 999 dead 0 cap 9999;",
                    "return 1;", "share run 50 50;return 1;");
            bests("the YEAR behind isn't its own", last, review, 99999, 0);
        }
        // FIRMS with X 9 are ALLOWED 0 by a falling line, which tells 90 for X 0.
        Story fall = Story.ofFirms(1000, 1000, 1000);
        for (int firm = 0; firm < 3; firm++) {
            fall.point(firm, 0, 0, 0, 0, 90).point(firm, 1, 0, 9, 0, 0);
        }
        bests("there are no more FIRMS", put(fall, "allow run line 0 100;", "return 1;"), 1, 0, 0);
        bests("a REVENUE below 0 is less", put(Story.of(s).work(0, 10, 0), "", "back 50;"), 0, 0, 1);
        // 535,199,497 for each FIRM in YEAR 14 alone: all together more than an int holds.
        Story most = new Story().rules(0, "index 150;");
        for (int i = 0; i < 11; i++) {
            most.then(x -> x.firm(999999));
        }
        for (int i = 0; i < 40; i++) {
            most.work(i % 11, 99999, 0).done(i);
        }
        bests("the most", put(Story.of(most), "index 150;return 500;", "index 150;return 499;",
                "return 1;", "index 150;return 498;"), 2, 0, 2);
        bests("more than an int holds", put(Story.of(most), "index 150;return 500;",
                "index 150;return 190;", "index 150;return 400;", "index 150;return 200;"), 2, 0,
                1);
        Story logs = put(Story.of(s).log(0, 3, 50).day(20).log(0, 3, 50), "log 100;bench",
                "return 1;");
        bests("a FAULT wasn't beside", logs, 0, 0, 0);
        Story knownToday = put(Story.ofFirms(0).bench(0, 0, 3, 100).log(0, 3, 50).day(20)
                .log(0, 3, 50), "log 50;", "log 0 unless year=3;log 100 unless not year=3;");
        bests("as KNOWN TODAY as much", knownToday, 0, 0, 0);
        Story.of(knownToday).then(x -> x.best(0, 0)).isAs("nothing is changed by it", knownToday);
    }

    private static void promise29() {
        Check.says("Promise 29", "BEST (bound 0 to 99,999).");
        Story s = put(Story.ofFirms(1000).fact(0, 0, 3, 99999).fact(0, 1, 3, 1),
                "share run 100 0 unless not year=0;return 3;",
                "share run 100 0;return 2;", "return 4;");
        bests("bound 0", s, 0, 0, 2);
        bests("bound 99,998", s, 0, 99998, 2);
        bests("bound 99,999", s, 0, 99999, 0);
        Check.says("Promise 29", "NONE: none such, none is within it.");
        s.bounds("best", NONE, (x, a) -> x.best(a[0], a[1]), new int[] {0, 5}, new int[] {0, 2},
                new int[] {0, 99999});
        Story.ofFirms(1000).answers("none PUT BY", NONE, x -> x.best(0, 99999));
        Story.ofFirms(1000).beside("return 1;").answers("beside alone isn't PUT BY", NONE,
                x -> x.best(0, 99999));
        // What is kept is below 0, and no FIRMS bear nothing: a bound below 0 is none such.
        Story kept = put(Story.ofFirms(0).bench(0, 0, 0, 900).fact(0, 0, 3, 0), "share run 0 90;");
        Story nobody = put(new Story(), "");
        for (int bound : new int[] {-1, MIN}) {
            bests("kept", kept, 0, bound, NONE);
            bests("no FIRMS", nobody, 0, bound, NONE);
        }
        bests("kept by 0", kept, 0, 0, 0);
        bests("no FIRMS by 0", nobody, 2, 0, 0);
        Story none = put(Story.ofFirms(1000).fact(0, 0, 3, 99999).fact(0, 1, 3, 1),
                "share run 100 0;");
        bests("none is within 99,999", none, 0, 99999, NONE);
        bests("it is in REVIEW 1", none, 1, 0, 0);
    }

    private static void pairs(String name, Story s, int... due) {
        for (int i = 0; i < due.length; i++) {
            int k = i / 2;
            int what = i % 2;
            s.answers(name + ", pair " + k + ", what " + what, due[i], x -> x.twice(k, what));
        }
        s.answers(name + ", no more", NONE, x -> x.twice(due.length / 2, 0));
    }

    private static void twice() {
        Check.says("Terms 4", "TWICE: pairs of WORKS of one FIRM with as many coins, due at most a"
                + " YEAR from one another (by numbers).");
        Story s = Story.ofFirms(1, 1);
        pairs("none", s);
        pairs("one WORK", Story.of(s).work(0, 5, 3));
        pairs("of one YEAR", Story.of(s).work(0, 5, 3).work(0, 5, 3), 0, 1);
        pairs("a YEAR behind", Story.of(s).work(0, 5, 3).work(0, 5, 4), 0, 1);
        pairs("a YEAR ahead", Story.of(s).work(0, 5, 3).work(0, 5, 2), 0, 1);
        pairs("two YEARS behind", Story.of(s).work(0, 5, 3).work(0, 5, 5));
        pairs("two YEARS ahead", Story.of(s).work(0, 5, 3).work(0, 5, 1));
        pairs("a coin more", Story.of(s).work(0, 5, 3).work(0, 6, 3));
        pairs("a coin less", Story.of(s).work(0, 5, 3).work(0, 4, 3));
        pairs("of two FIRMS", Story.of(s).work(0, 5, 3).work(1, 5, 3));
        pairs("of two FIRMS, the higher one first", Story.of(s).work(1, 5, 3).work(0, 5, 3));
        pairs("of FIRM 1", Story.of(s).work(0, 5, 3).work(1, 5, 3).work(1, 5, 4), 1, 2);
        pairs("by numbers", Story.of(s).work(0, 5, 3).work(1, 7, 3).work(1, 7, 3).work(0, 5, 3)
                .work(0, 5, 4).work(1, 7, 2), 0, 3, 0, 4, 1, 2, 1, 5, 2, 5, 3, 4);
        pairs("not from the one over the other", Story.of(s).work(0, 5, 3).work(0, 5, 4)
                .work(0, 5, 5), 0, 1, 1, 2);
        pairs("DONE ones too", Story.of(s).work(0, 5, 3).work(0, 5, 3).done(0).done(1), 0, 1);
        Story all = Story.of(s);
        for (int i = 0; i < 40; i++) {
            all.work(0, 5, 3);
        }
        all.answers("the first of all, first", 0, x -> x.twice(0, 0));
        all.answers("the first of all, second", 1, x -> x.twice(0, 1));
        all.answers("the last of all, first", 38, x -> x.twice(779, 0));
        all.answers("the last of all, second", 39, x -> x.twice(779, 1));
        all.answers("no more", NONE, x -> x.twice(780, 0));
    }

    private static void promise32() {
        Check.says("Promise 32", "TWICE: the k-th pair's first (what 0), second (1).");
        Story s = Story.ofFirms(1, 1).work(0, 9, 0).work(0, 5, 3).work(0, 5, 3).work(0, 5, 4);
        pairs("three", s, 1, 2, 1, 3, 2, 3);
        Check.says("Promise 32", "NONE: none such.");
        s.bounds("twice", NONE, (x, a) -> x.twice(a[0], a[1]), new int[] {0, 0}, new int[] {0, 2},
                new int[] {0, 1});
        s.answers("k and what beyond", NONE, x -> x.twice(MAX, MIN));
        new Story().answers("no WORKS", NONE, x -> x.twice(0, 0));
    }
}
