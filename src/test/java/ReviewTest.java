/** Promises 14 and 15: which RULES a REVIEW has, and which of its statements hold. */
final class ReviewTest {
    private ReviewTest() {
    }

    public static void main(String[] args) {
        promise14WhichRules();
        promise14KnownAsItIsDecided();
        promise14Quarrel();
        promise14NoneSuch();
        promise15Kinds();
        promise15TheLastOne();
        promise15Unless();
        promise15Homes();
        promise15Worth();
        promise15Late();
        promise15NoneSuch();
        Check.end();
    }

    private static void reviews(WaterReview x, int first, int second, int third) {
        Check.due("RULES of REVIEW 0", x.review(0, 0), first);
        Check.due("RULES of REVIEW 1", x.review(1, 0), second);
        Check.due("RULES of REVIEW 2", x.review(2, 0), third);
    }

    private static void promise14WhichRules() {
        WaterReview x = new WaterReview();
        reviews(x, -1, -1, -1);
        Check.rules(x, 1, "log 1;");
        reviews(x, -1, 0, 0);
        Check.rules(x, 2, "log 2; log 3;");
        reviews(x, -1, 0, 1);
        Check.rules(x, 1, "log 4; log 5; log 6;");
        reviews(x, -1, 2, 1);
        Check.rules(x, 0, "");
        reviews(x, 3, 2, 1);
        Check.due("statements of 0", x.review(0, 1), 0);
        Check.due("statements of 1", x.review(1, 1), 3);
        Check.due("statements of 2", x.review(2, 1), 2);
    }

    private static void promise14KnownAsItIsDecided() {
        WaterReview x = new WaterReview();
        Check.rules(x, 0, "log 1;");
        x.day(1);
        Check.rules(x, 0, "log 2;");
        reviews(x, 0, 1, 1);
        x.day(500);
        Check.rules(x, 0, "log 3;");
        reviews(x, 0, 2, 2);
        x.day(501);
        Check.rules(x, 0, "log 4;");
        reviews(x, 0, 2, 3);
        Check.rules(x, 1, "log 5;");
        reviews(x, 0, 2, 4);
        x.day(1000);
        Check.rules(x, 1, "log 6;");
        reviews(x, 0, 2, 5);
        x.day(1001);
        Check.rules(x, 2, "log 7;");
        reviews(x, 0, 2, 5);
    }

    private static void quarrel(String text, int first, int second) {
        WaterReview x = new WaterReview();
        Check.rules(x, 1, text);
        Check.due("QUARREL's first of " + text, x.review(1, 2), first);
        Check.due("QUARREL's second of " + text, x.review(1, 3), second);
    }

    private static void promise14Quarrel() {
        quarrel("", -1, -1);
        quarrel("return 1;index 100;wear 1;back 1;tilt 1;log 1;", -1, -1);
        quarrel("return 1;return 1;", 0, 1);
        quarrel("log 1;return 1;wear 2;return 2;return 3;", 1, 3);
        quarrel("log 1;return 1;return 2;log 2;", 0, 3);
        quarrel("return 1 unless year<5;return 2;", -1, -1);
        quarrel("return 1;return 2 unless year<5;", -1, -1);
        quarrel("return 1;return 2 unless year<5;return 3;", 0, 2);
        quarrel("allow run plan 1;allow pipes plan 1;", -1, -1);
        quarrel("allow run plan 1;allow run line 1 1;", 0, 1);
        quarrel("share run 1 1;allow run plan 1;share run 2 2;", 0, 2);
        quarrel("share other 1 1;share run 1 1;share power 1 1;share pipes 1 1;", -1, -1);
        quarrel("target 0 more 1 step 1 coin 1 dead 1 cap 1;"
                + "target 1 more 1 step 1 coin 1 dead 1 cap 1;", -1, -1);
        quarrel("target 2 more 1 step 1 coin 1 dead 1 cap 1;"
                + "target 2 less 9 step 9 coin 9 dead 9 cap 9;", 0, 1);
        WaterReview x = new WaterReview();
        Check.rules(x, 0, "return 1;log 5;");
        Check.rules(x, 0, "amend;strike 0;wear 1;log 6;");
        Check.due("QUARREL with an amended one", x.review(0, 2), 0);
        Check.due("by places of all together", x.review(0, 3), 2);
    }

    private static void promise14NoneSuch() {
        WaterReview x = new WaterReview();
        Check.rules(x, 0, "return 1;return 2;");
        Check.due("review -1", x.review(-1, 0), -1);
        Check.due("review 3", x.review(3, 0), -1);
        Check.due("what -1", x.review(0, -1), -1);
        Check.due("what 4", x.review(0, 4), -1);
        WaterReview y = new WaterReview();
        for (int what = 0; what < 4; what++) {
            Check.due("of none, what " + what, y.review(0, what), -1);
        }
    }

    private static void promise15Kinds() {
        WaterReview x = new WaterReview();
        x.firm(1);
        Check.rules(x, 0, "log 1;tilt 1;back 1;wear 1;index 100;return 1;"
                + "target 2 more 1 step 1 coin 1 dead 1 cap 1;"
                + "target 0 less 1 step 1 coin 1 dead 1 cap 1;"
                + "share other 1 1;share run 1 1;share power 1 1;share pipes 1 1;"
                + "allow other plan 1;allow run line 1 1;allow power mean 1 1;allow pipes best 1 1;");
        int[][] due = {{13, 15, 14, 12}, {9, 11, 10, 8}, {7, -1, 6, -1},
            {5, 5, 5, 5}, {4, 4, 4, 4}, {3, 3, 3, 3}, {2, 2, 2, 2}, {1, 1, 1, 1}, {0, 0, 0, 0}};
        for (int kind = 0; kind < 9; kind++) {
            for (int of = 0; of < 4; of++) {
                Check.due("holds " + kind + " of " + of, x.holds(0, 2, kind, of), due[kind][of]);
            }
        }
        Check.due("of isn't asked", x.holds(0, 2, 3, -7), 5);
        Check.due("of isn't asked of log", x.holds(0, 2, 8, 99), 0);
        Check.due("of 4", x.holds(0, 2, 0, 4), -1);
        Check.due("of -1", x.holds(0, 2, 1, -1), -1);
        Check.due("of 3 of a target", x.holds(0, 2, 2, 3), -1);
    }

    private static void promise15TheLastOne() {
        WaterReview x = new WaterReview();
        x.firm(1);
        x.firm(1);
        Check.rules(x, 0, "wear 1;wear 2;wear 3 unless firm=1;");
        Check.rules(x, 1, "log 0;wear 4 unless year>7;");
        Check.due("the last one", x.holds(0, 0, 5, 0), 2);
        Check.due("the last whose unless doesn't hold", x.holds(1, 0, 5, 0), 1);
        Check.due("by the RULES of the YEAR's REVIEW", x.holds(0, 4, 5, 0), 2);
        Check.due("in year 5", x.holds(0, 5, 5, 0), 1);
        Check.due("in year 7", x.holds(0, 7, 5, 0), 1);
        Check.due("in year 8", x.holds(0, 8, 5, 0), -1);
    }

    /** Whether a test holds for a FIRM and YEAR of REVIEW 2, by RULES that are told for it. */
    private static void unless(WaterReview x, int firm, int year, String test, boolean due) {
        if (Check.rules(x, 2, "log 1 unless " + test + ";") < 0) {
            throw new IllegalStateException("not taken: " + test);
        }
        Check.due("unless " + test + " for " + firm + " in " + year,
                x.holds(firm, year, 8, 0), due ? -1 : 0);
    }

    private static void promise15Unless() {
        String[] tests = {
            "year<12", "year<13", "year>12", "year>11", "year=12", "year=11", "firm=1", "firm=0",
            "firm<1", "firm<2", "year=12 and firm=1", "year=12 and firm=0", "year=11 and firm=1",
            "year=11 or firm=1", "year=12 or firm=0", "year=11 or firm=0",
            "not year=12", "not year=11", "not not year=12", "not firm=0 and year=12",
            "not firm=1 or year=12", "not (firm=1 or year=12)", "not (firm=0 or year=11)",
            "firm=1 or year=1 and firm=0", "(firm=1 or year=1) and firm=0",
            "firm=0 and year=1 or firm=1", "firm=0 and (year=1 or firm=1)",
            "not firm=0 and not year=1 and not late>0", "firm=1 and year=12 and late=0 and late=1",
            "firm=0 or year=1 or late=1 or firm=1", "firm=0 or year=1 or late=1 or firm=2",
            "((firm=1))", "not ((not (firm=1)))", "not (not (firm=1) and firm=1)",
            "firm=0 and firm=0 or firm=1 and firm=1 or firm=0 and firm=0"
        };
        boolean[] due = {
            false, true, false, true, true, false, true, false,
            false, true, true, false, false,
            true, true, false,
            false, true, true, true,
            true, false, true,
            true, false,
            true, false,
            true, false,
            true, false,
            true, true, true,
            true
        };
        for (int i = 0; i < tests.length; i++) {
            WaterReview x = new WaterReview();
            x.firm(1);
            x.firm(1);
            unless(x, 1, 12, tests[i], due[i]);
        }
    }

    private static void promise15Homes() {
        String test = "homes=30";
        WaterReview x = new WaterReview();
        x.firm(1);
        unless(x, 0, 12, "homes=0", true);
        x.fact(0, 3, 11, 5);
        x.fact(0, 8, 11, 10);
        x.fact(0, 8, 12, 20);
        x.fact(0, 13, 13, 7);
        unless(x, 0, 12, test, true);
        Check.due("of a year ahead of any", x.holds(0, 10, 8, 0), -1);
        Check.due("year 13 has others", x.holds(0, 13, 8, 0), 0);
        x.fact(0, 12, 13, 30);
        Check.due("of the year itself, of one kind", x.holds(0, 12, 8, 0), -1);
        x.fact(0, 12, 11, 1);
        Check.due("of all kinds together", x.holds(0, 12, 8, 0), 0);
        WaterReview y = new WaterReview();
        y.firm(1);
        y.fact(0, 9, 12, 4);
        y.day(1000);
        y.fact(0, 10, 12, 6);
        unless(y, 0, 11, "homes=6", true);
        y.day(1001);
        y.fact(0, 10, 12, 8);
        y.fact(0, 11, 12, 9);
        Check.due("as KNOWN as the REVIEW was decided", y.holds(0, 11, 8, 0), -1);
        WaterReview w = new WaterReview();
        w.firm(1);
        w.fact(0, 0, 13, 44);
        unless(w, 0, 12, "homes=44", true);
        WaterReview z = new WaterReview();
        z.firm(1);
        z.fact(0, 9, 12, 4);
        z.fact(0, 10, 11, 0);
        unless(z, 0, 11, "homes=0", true);
    }

    private static void promise15Worth() {
        WaterReview x = new WaterReview();
        x.firm(1000);
        Check.rules(x, 0, "index 110;log 1 unless worth>1209;log 2 unless worth<1210;");
        Check.due("1000 in year 0", x.holds(0, 0, 8, 0), 1);
        Check.due("1100 in year 1", x.holds(0, 1, 8, 0), 1);
        Check.due("1210 in year 2", x.holds(0, 2, 8, 0), 2);
        WaterReview y = new WaterReview();
        y.firm(1000);
        Check.rules(y, 0, "index 150 unless worth>2000;");
        Check.due("1000 by 150", y.worth(0, 1), 1500);
        Check.due("1500 by 150", y.worth(0, 2), 2250);
        Check.due("2250 as it is", y.worth(0, 3), 2250);
    }

    private static void promise15Late() {
        WaterReview x = new WaterReview();
        x.firm(1);
        x.firm(1);
        x.work(0, 5, 10);
        x.work(0, 5, 11);
        x.work(0, 5, 12);
        x.work(1, 5, 10);
        unless(x, 0, 12, "late=2", true);
        Check.due("none is late in the year it is due", x.holds(0, 10, 8, 0), 0);
        Check.due("in year 11", x.holds(0, 11, 8, 0), 0);
        Check.due("in year 13", x.holds(0, 13, 8, 0), 0);
        unless(x, 1, 12, "late=1", true);
        Check.due("not of the other firm", x.holds(0, 11, 8, 0), -1);
        x.day(1199);
        x.done(0);
        Check.due("DONE the day ahead of year 12", x.holds(0, 12, 8, 0), -1);
        Check.due("late in the year ahead", x.holds(0, 11, 8, 0), -1);
        x.day(1200);
        x.done(1);
        Check.due("DONE on the day on which year 12 begins: late", x.holds(0, 12, 8, 0), -1);
        Check.due("both DONE ahead of year 13", x.holds(0, 13, 8, 0), -1);
        unless(x, 0, 13, "late=1", true);
        unless(x, 0, 12, "late=1", true);
    }

    private static void promise15NoneSuch() {
        WaterReview x = new WaterReview();
        x.firm(1);
        Check.due("no RULES", x.holds(0, 0, 3, 0), -1);
        Check.rules(x, 0, "return 1;");
        Check.due("return", x.holds(0, 0, 3, 0), 0);
        Check.due("index", x.holds(0, 0, 4, 0), -1);
        Check.due("firm 1", x.holds(1, 0, 3, 0), -1);
        Check.due("firm -1", x.holds(-1, 0, 3, 0), -1);
        Check.due("year -1", x.holds(0, -1, 3, 0), -1);
        Check.due("year 15", x.holds(0, 15, 3, 0), -1);
        Check.due("year 14", x.holds(0, 14, 3, 0), 0);
        Check.due("kind -1", x.holds(0, 0, -1, 0), -1);
        Check.due("kind 9", x.holds(0, 0, 9, 0), -1);
    }
}
