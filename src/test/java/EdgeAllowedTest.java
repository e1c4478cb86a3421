/**
 * The edges of what is ALLOWED, a test for each sentence: what Terms 3 say of ALLOWED and POINTS,
 * what Terms 4 say of SPAN and MOVES, and Promises 16, 17, 25 and 26.
 */
final class EdgeAllowedTest {
    private static final int NONE = -1;
    private static final long NO_ALLOWED = -2_000_000_000;

    private EdgeAllowedTest() {
    }

    public static void main(String[] args) {
        bench();
        asKnownAsItIsDecided();
        hundredths();
        plan();
        points();
        driver();
        mean();
        best();
        line();
        lineOfNoSlope();
        held();
        withoutAllow();
        promise16();
        promise17();
        span();
        promise25();
        moves();
        promise26();
        Check.end();
    }

    /** ALLOWED for FIRM 0, HEAD 0, by all that is known. */
    private static void allows(String name, Story s, int year, long due) {
        s.answers(name, due, x -> x.allowed(0, 0, year, 1499));
    }

    /** RULES from REVIEW 0 on, told on DAY 0, and FIRMS. */
    private static Story by(String rules, int firms) {
        Story s = new Story().rules(0, rules);
        for (int i = 0; i < firms; i++) {
            s.then(x -> x.firm(1000));
        }
        return s;
    }

    private static void bench() {
        Check.says("Terms 3", "ALLOWED for a FIRM, HEAD, YEAR as KNOWN by a DAY: what a BENCH word"
                + " KNOWN by it says;");
        Story s = by("allow run plan 100;", 2).fact(0, 3, 7, 50).day(20).bench(0, 0, 3, 99999);
        s.day(30).bench(0, 0, 3, 0);
        int[] days = {0, 19, 20, 29, 30, 1499};
        int[] due = {50, 50, 99999, 99999, 0, 0};
        for (int i = 0; i < days.length; i++) {
            int day = days[i];
            s.answers("by " + day, due[i], x -> x.allowed(0, 0, 3, day));
        }
        s.fact(1, 3, 7, 60).fact(0, 2, 7, 70);
        by("", 1).bench(0, 2, 3, 7).answers("without allow", 7, x -> x.allowed(0, 2, 3, 0));
        by("allow run plan 200;", 1).bench(0, 0, 3, 7).answers("no hundredths of it", 7,
                x -> x.allowed(0, 0, 3, 0));
    }

    private static void asKnownAsItIsDecided() {
        Check.says("Terms 3", "else by \"allow\" (all FACTS as KNOWN as the REVIEW is decided)");
        Story s = by("allow run mean 0 100;allow pipes plan 100;", 2).fact(0, 4, 0, 1);
        s.fact(1, 4, 0, 1).fact(1, 4, 3, 5).fact(0, 5, 8, 6);
        Story on = Story.of(s).day(500).fact(0, 4, 0, 2).fact(1, 4, 3, 30).fact(0, 5, 8, 7);
        on.answers("COST and X told on its DAY", 60, x -> x.allowed(0, 0, 5, 0));
        on.answers("PLAN told on its DAY", 7, x -> x.allowed(0, 1, 5, 0));
        Story behind = Story.of(s).day(501).fact(0, 4, 0, 2).fact(1, 4, 3, 30).fact(0, 5, 8, 7);
        behind.answers("COST and X told a DAY later", 5, x -> x.allowed(0, 0, 5, 1499));
        behind.answers("PLAN told a DAY later", 6, x -> x.allowed(0, 1, 5, 1499));
        Story.of(s).day(1).fact(0, 4, 8, 9).answers("of REVIEW 0 on DAY 1", 0,
                x -> x.allowed(0, 1, 4, 1499));
        Story.of(s).fact(0, 4, 8, 9).answers("of REVIEW 0 on DAY 0", 9,
                x -> x.allowed(0, 1, 4, 0));
        Story.of(s).day(1000).fact(0, 10, 8, 9).answers("of REVIEW 2 on DAY 1000", 9,
                x -> x.allowed(0, 1, 10, 0));
        Story.of(s).day(1001).fact(0, 10, 8, 9).answers("of REVIEW 2 on DAY 1001", 0,
                x -> x.allowed(0, 1, 10, 1499));
        // What is KNOWN by the DAY asked by is nothing to them.
        on.answers("asked by DAY 0", 60, x -> x.allowed(0, 0, 5, 0));
        on.answers("asked by DAY 499", 7, x -> x.allowed(0, 1, 5, 499));
    }

    private static void hundredths() {
        Check.says("Terms 3", "N hundredths (cut) of:");
        int[] plans = {199, 199, 199, 1, 99, 100, 99999, 99999, 3};
        int[] n = {50, 100, 0, 99, 1, 1, 200, 199, 33};
        int[] due = {99, 199, 0, 0, 0, 1, 199998, 198998, 0};
        for (int i = 0; i < n.length; i++) {
            allows(n[i] + " of " + plans[i], by("allow run plan " + n[i] + ";", 1).fact(0, 3, 7,
                    plans[i]), 3, due[i]);
        }
    }

    private static void plan() {
        Check.says("Terms 3", "plan: its PLAN (0 without).");
        Story s = by("allow run plan 100;", 2);
        allows("without", s, 3, 0);
        s.fact(1, 3, 7, 5).fact(0, 2, 7, 6).fact(0, 4, 7, 8).fact(0, 3, 8, 9).fact(0, 3, 3, 10);
        allows("of another FIRM, YEAR, HEAD", s, 3, 0);
        allows("its PLAN", Story.of(s).fact(0, 3, 7, 7), 3, 7);
        allows("0", Story.of(s).fact(0, 3, 7, 0), 3, 0);
        allows("99,999", Story.of(s).fact(0, 3, 7, 99999), 3, 99999);
    }

    private static void pointsAre(String name, Story s, int review, int n, int x, int y) {
        int[] due = {n, x, y};
        for (int what = 0; what < 3; what++) {
            int k = what;
            s.answers(name + ", what " + k, due[k], w -> w.points(0, 0, review, 0, k));
        }
    }

    private static void points() {
        Check.says("Terms 3", "The others go by POINTS: all other FIRMS in the five YEARS ahead of"
                + " the REVIEW, in which both the DRIVER and the COST are there;");
        for (int year = 0; year < 15; year++) {
            Story s = Story.ofFirms(1, 1).point(1, year, 0, 7, 0, 11);
            for (int review = 0; review < 3; review++) {
                boolean is = year / 5 + 1 == review;
                pointsAre("YEAR " + year + " of REVIEW " + review, s, review, is ? 1 : 0,
                        is ? 7 : 0, is ? 11 : 0);
            }
        }
        Story s = Story.ofFirms(1, 1, 1);
        pointsAre("none", s, 1, 0, 0, 0);
        pointsAre("its own", Story.of(s).point(0, 4, 0, 7, 0, 11), 1, 0, 0, 0);
        pointsAre("the DRIVER alone", Story.of(s).fact(1, 4, 0, 7), 1, 0, 0, 0);
        pointsAre("the COST alone", Story.of(s).fact(1, 4, 3, 7), 1, 0, 0, 0);
        pointsAre("in two YEARS", Story.of(s).fact(1, 4, 0, 7).fact(1, 3, 3, 7), 1, 0, 0, 0);
        pointsAre("of two FIRMS", Story.of(s).fact(1, 4, 0, 7).fact(2, 4, 3, 7), 1, 0, 0, 0);
        pointsAre("another DRIVER", Story.of(s).point(1, 4, 1, 7, 0, 11), 1, 0, 0, 0);
        pointsAre("another HEAD", Story.of(s).point(1, 4, 0, 7, 1, 11), 1, 0, 0, 0);
        pointsAre("both 0", Story.of(s).point(1, 4, 0, 0, 0, 0), 1, 1, 0, 0);
        pointsAre("told twice", Story.of(s).point(1, 4, 0, 7, 0, 11).point(1, 4, 0, 8, 0, 12), 1,
                1, 8, 12);
        Story late = Story.of(s).day(500).fact(1, 4, 0, 7).day(501).fact(1, 4, 3, 11);
        pointsAre("the COST is KNOWN too late", late, 1, 0, 0, 0);
        Story onDay = Story.of(s).day(500).point(1, 4, 0, 7, 0, 11).day(501).fact(1, 4, 3, 99);
        pointsAre("as it is decided", onDay, 1, 1, 7, 11);
        Story all = Story.ofFirms(1, 1, 1, 1, 1, 1, 1, 1, 1, 1, 1);
        for (int firm = 0; firm < 11; firm++) {
            for (int year = 5; year < 10; year++) {
                all.point(firm, year, 0, 999, 0, 99999);
            }
        }
        pointsAre("the most POINTS", all, 2, 50, 49950, 4999950);
        Story first = Story.ofFirms(1, 1).fact(0, 0, 0, 9).fact(1, 0, 0, 9);
        first.answers("REVIEW 0 has no YEARS ahead", 0, x -> x.points(1, 0, 0, 0, 0));
        first.answers("nor for FIRM 0", 0, x -> x.points(0, 0, 0, 0, 0));
        byEachModeInEachYear();
        all.answers("of the last FIRM", 50, x -> x.points(10, 0, 2, 0, 0));
    }

    /** ALLOWED goes by the same POINTS in all YEARS of a REVIEW, for each FIRM and HEAD. */
    private static void byEachModeInEachYear() {
        String[] heads = {"run", "pipes", "power", "other"};
        for (int head = 0; head < 4; head++) {
            int h = head;
            for (String mode : new String[] {"mean", "best", "line"}) {
                Story s = by("allow " + heads[h] + " " + mode + " 2 100;", 3);
                s.point(0, 4, 2, 1, h, 10).point(1, 4, 2, 1, h, 20).point(2, 4, 2, 1, h, 90);
                s.point(0, 9, 2, 1, h, 50).point(1, 9, 2, 1, h, 60).point(2, 9, 2, 1, h, 70);
                long[][] due = mode.equals("best") ? new long[][] {{20, 10, 10}, {60, 50, 50}}
                        : new long[][] {{55, 50, 15}, {65, 60, 55}};
                for (int year = 5; year < 15; year++) {
                    for (int firm = 0; firm < 3; firm++) {
                        int y = year;
                        int f = firm;
                        s.answers(mode + " of " + h + " for " + f + " in " + y, due[y / 10][f],
                                x -> x.allowed(f, h, y, 0));
                    }
                }
            }
        }
    }

    private static void driver() {
        Check.says("Terms 3", "and by X: its DRIVER of the latest YEAR up to that one that has one"
                + " (0 without).");
        Story s = by("allow run mean 0 100;", 2).point(1, 0, 0, 1, 0, 10);
        allows("without", s, 5, 0);
        allows("of the other FIRM it isn't", Story.of(s).fact(1, 5, 0, 9), 5, 0);
        allows("another DRIVER", Story.of(s).fact(0, 5, 1, 9), 5, 0);
        allows("of the YEAR behind", Story.of(s).fact(0, 6, 0, 9), 5, 0);
        allows("of the YEAR", Story.of(s).fact(0, 5, 0, 9), 5, 90);
        allows("of YEAR 0", Story.of(s).fact(0, 0, 0, 9), 5, 90);
        Story years = Story.of(s).fact(0, 2, 0, 3).fact(0, 6, 0, 4).fact(0, 8, 0, 0);
        int[] due = {30, 40, 40, 0, 0};
        for (int i = 0; i < 5; i++) {
            allows("in YEAR " + (5 + i), years, 5 + i, due[i]);
        }
        allows("KNOWN too late", Story.of(years).day(501).fact(0, 7, 0, 9), 7, 40);
        Story line = withPoints(by("allow run line 0 100;", 2), 1, 10, 2, 30, 4, 40);
        allows("0 without, by line", line, 5, 5);
        allows("0 told, by line", Story.of(line).fact(0, 5, 0, 0), 5, 5);
        allows("1 told, by line", Story.of(line).fact(0, 5, 0, 1), 5, 14);
        allows("KNOWN on the DAY", Story.of(years).day(500).fact(0, 7, 0, 9), 7, 90);
    }

    /** POINTS of FIRM 1 (and on, five of each) in REVIEW 1: DRIVER and COST in turn. */
    private static Story withPoints(Story s, int... xy) {
        for (int i = 0; i < xy.length; i += 2) {
            s.point(1 + i / 10, i / 2 % 5, 0, xy[i], 0, xy[i + 1]);
        }
        return s;
    }

    private static Story mode(String mode, int itsX, int... xy) {
        return withPoints(by("allow run " + mode + " 0 100;", 11), xy).fact(0, 5, 0, itsX);
    }

    private static void mean() {
        Check.says("Terms 3", "mean: all COSTS times X by all DRIVERS, cut (0, if these are 0).");
        allows("no POINTS", mode("mean", 7), 5, 0);
        allows("DRIVERS 0", mode("mean", 7, 0, 50), 5, 0);
        allows("DRIVERS 0 all", mode("mean", 7, 0, 50, 0, 60), 5, 0);
        allows("one DRIVER isn't 0", mode("mean", 7, 0, 50, 1, 60), 5, 770);
        allows("X 0", mode("mean", 0, 5, 50), 5, 0);
        allows("COST 0", mode("mean", 7, 5, 0), 5, 0);
        allows("cut below", mode("mean", 2, 3, 10), 5, 6);
        allows("cut above", mode("mean", 1, 3, 5), 5, 1);
        allows("not POINT by POINT", mode("mean", 3, 1, 10, 9, 20), 5, 9);
        int[] xy = new int[100];
        for (int i = 0; i < 100; i += 2) {
            xy[i] = 999;
            xy[i + 1] = 99999;
        }
        // All COSTS times X are 4,995 millions, more than an int holds.
        allows("the largest", mode("mean", 999, xy), 5, 99999);
        allows("the largest by X 1", mode("mean", 1, xy), 5, 100);
    }

    private static void best() {
        Check.says("Terms 3", "best: the POINT with a DRIVER above 0 of which COST by DRIVER is"
                + " least (the first of several, by FIRMS, then YEARS): COST times X by DRIVER,"
                + " cut; 0 without.");
        allows("no POINTS", mode("best", 7), 5, 0);
        allows("DRIVER 0 alone", mode("best", 7, 0, 0), 5, 0);
        allows("DRIVER 0 isn't one", mode("best", 7, 0, 0, 5, 50), 5, 70);
        allows("DRIVER 0 behind isn't, either", mode("best", 7, 5, 50, 0, 0), 5, 70);
        allows("DRIVER 1 is one", mode("best", 7, 1, 9, 5, 50), 5, 63);
        allows("the least is the first", mode("best", 10, 3, 7, 4, 10), 5, 23);
        allows("the least is the last", mode("best", 10, 4, 10, 3, 7), 5, 23);
        allows("least by a hair", mode("best", 998, 998, 501, 999, 501), 5, 500);
        allows("least by a hair, the other way round", mode("best", 998, 999, 501, 998, 501), 5,
                500);
        allows("as little", mode("best", 999, 2, 3, 4, 6), 5, 1498);
        allows("COST 0", mode("best", 999, 2, 3, 4, 0), 5, 0);
        allows("X 0", mode("best", 0, 2, 3), 5, 0);
        allows("of the largest", mode("best", 9, 999, 99999, 998, 99999), 5, 900);
        int[] fifty = new int[100];
        for (int i = 0; i < 100; i += 2) {
            fifty[i] = 10;
            fifty[i + 1] = i < 98 ? 50 : 40;
        }
        allows("the last of fifty", mode("best", 10, fifty), 5, 40);
        allows("of another FIRM", mode("best", 9, 9, 90, 9, 90, 9, 90, 9, 90, 9, 90, 9, 80), 5, 80);
    }

    private static void line() {
        Check.says("Terms 3", "line: by least squares: with n POINTS, sums x, y, xx, xy: D is n xx"
                + " less x x");
        Check.due("two POINTS", mode("line", 5, 1, 10, 3, 20).told().allowed(0, 0, 5, 0), 30);
        Check.says("Terms 3",
                "else (y D and (n xy less x y)(n X less x)) by n D, cut; 0 at least.");
        // n 3, x 7, y 80, xx 21, xy 230: D 14, n D 42, n xy less x y 130.
        int[] three = {1, 10, 2, 30, 4, 40};
        allows("X 0: 210 by 42", mode("line", 0, three), 5, 5);
        allows("X 1: 600 by 42", mode("line", 1, three), 5, 14);
        allows("X 2: 990 by 42", mode("line", 2, three), 5, 23);
        allows("X 4: 1770 by 42", mode("line", 4, three), 5, 42);
        allows("X 999: 389,820 by 42", mode("line", 999, three), 5, 9281);
        // Falling: 60 at 1, 40 at 3.
        allows("falling, at 6", mode("line", 6, 1, 60, 3, 40), 5, 10);
        allows("falling, at 7: 0", mode("line", 7, 1, 60, 3, 40), 5, 0);
        allows("falling, at 8: 0 at least", mode("line", 8, 1, 60, 3, 40), 5, 0);
        allows("falling, at 999", mode("line", 999, 1, 60, 3, 40), 5, 0);
        // 1 at 0, 0 at 3: a third at 2, nothing of which is left when it's cut.
        allows("cut to 0", mode("line", 2, 0, 1, 3, 0), 5, 0);
        allows("1 at 0", mode("line", 0, 0, 1, 3, 0), 5, 1);
        // 3 at 0, 0 at 2: 1.5 below 0 at 3, three below at 4.
        allows("cut to -1: 0 at least", mode("line", 3, 0, 3, 2, 0), 5, 0);
        allows("-3: 0 at least", mode("line", 4, 0, 3, 2, 0), 5, 0);
        largestLine();
    }

    private static void largestLine() {
        int[] xy = new int[100];
        for (int i = 0; i < 50; i++) {
            xy[2 * i] = i < 25 ? 0 : 999;
            xy[2 * i + 1] = i < 25 ? 0 : 99999;
        }
        // n 50, x 24,975: D 623,750,625, y D some 1.5 times ten to the fifteenth.
        allows("the widest at 0", mode("line", 0, xy), 5, 0);
        allows("the widest at 500", mode("line", 500, xy), 5, 50049);
        allows("the widest at 999", mode("line", 999, xy), 5, 99999);
        for (int i = 0; i < 50; i++) {
            xy[2 * i + 1] = 99999 - xy[2 * i + 1];
        }
        allows("falling at 0", mode("line", 0, xy), 5, 99999);
        allows("falling at 500", mode("line", 500, xy), 5, 49949);
        allows("falling at 999", mode("line", 999, xy), 5, 0);
    }

    private static void lineOfNoSlope() {
        Check.says("Terms 3", "if it's 0, as mean;");
        allows("no POINTS", mode("line", 7), 5, 0);
        allows("one POINT", mode("line", 7, 4, 90), 5, 157);
        allows("one POINT at 0", mode("line", 7, 0, 90), 5, 0);
        allows("all of one DRIVER", mode("line", 7, 4, 90, 4, 30, 4, 0), 5, 70);
        allows("all of DRIVER 0", mode("line", 7, 0, 90, 0, 30), 5, 0);
        allows("D isn't 0", mode("line", 7, 4, 90, 5, 90), 5, 90);
        allows("one POINT, held", mode("line", 999, 1, 1002), 5, 999999);
        allows("one POINT, not held", mode("line", 999, 1, 1001), 5, 999999);
        allows("one POINT below", mode("line", 999, 1, 1000), 5, 999000);
    }

    private static void held() {
        Check.says("Terms 3", "(What a mode tells is held to 0 to 999,999 ahead of the hundredths.)");
        // 1001 times 999 are 999,999: the most that is told as it is; 1000000 and more are held.
        for (String mode : new String[] {"mean", "best", "line"}) {
            allows(mode + " tells 999,999", mode(mode, 999, 1, 1001), 5, 999999);
            allows(mode + " tells 1,000,998", mode(mode, 999, 1, 1002), 5, 999999);
            allows(mode + " tells 1,000,000", mode(mode, 800, 1, 1250), 5, 999999);
            allows(mode + " tells 999,200", mode(mode, 800, 1, 1249), 5, 999200);
            allows(mode + " tells 99,899,001", mode(mode, 999, 1, 99999), 5, 999999);
            Story twice = withPoints(by("allow run " + mode + " 0 200;", 2), 1, 99999);
            allows(mode + " held ahead of 200", twice.fact(0, 5, 0, 999), 5, 1999998);
            Story half = withPoints(by("allow run " + mode + " 0 50;", 2), 1, 99999);
            allows(mode + " held ahead of 50", half.fact(0, 5, 0, 999), 5, 499999);
        }
        Story below = withPoints(by("allow run line 0 200;", 2), 1, 60, 3, 40);
        allows("line below 0, held", below.fact(0, 5, 0, 999), 5, 0);
        Story steep = withPoints(by("allow run line 0 100;", 2), 0, 0, 1, 99999);
        allows("line not held", Story.of(steep).fact(0, 5, 0, 10), 5, 999990);
        allows("line held", Story.of(steep).fact(0, 5, 0, 11), 5, 999999);
    }

    private static void withoutAllow() {
        Check.says("Terms 3", "Without \"allow\": 0.");
        allows("no RULES", Story.ofFirms(1).fact(0, 0, 7, 5), 0, 0);
        allows("no allow", by("share run 5 5;", 1).fact(0, 0, 7, 5), 0, 0);
        allows("of another HEAD", by("allow pipes plan 100;", 1).fact(0, 0, 7, 5), 0, 0);
        allows("whose unless holds", by("allow run plan 100 unless year=0;", 1).fact(0, 0, 7, 5),
                0, 0);
        Story later = Story.ofFirms(1).rules(1, "allow run plan 100;").fact(0, 4, 7, 5);
        later.fact(0, 5, 7, 6);
        allows("of a later REVIEW", later, 4, 0);
        allows("of that REVIEW", later, 5, 6);
    }

    private static void promise16() {
        Check.says("Promise 16", "ALLOWED.");
        Story s = by("allow run plan 100;allow pipes plan 90;allow power plan 80;"
                + "allow other plan 70;", 3);
        for (int head = 0; head < 4; head++) {
            s.fact(2, 14, 7 + head, 1000);
            int h = head;
            s.answers("HEAD " + h, 1000 - 100 * h, x -> x.allowed(2, h, 14, 1499));
        }
        Check.says("Promise 16", "-2,000,000,000: none such.");
        s.bounds("allowed", NO_ALLOWED, (x, a) -> x.allowed(a[0], a[1], a[2], a[3]),
                new int[] {0, 0, 0, 0}, new int[] {0, 2}, new int[] {0, 3}, new int[] {0, 14},
                new int[] {0, 1499});
        Story.world().refuses("allowed", NO_ALLOWED, x -> x.allowed(3, 0, 0, 0),
                x -> x.allowed(0, 4, 0, 0), x -> x.allowed(0, 0, 0, 1500));
    }

    private static void promise17() {
        Check.says("Promise 17", "POINTS for a FIRM, HEAD, REVIEW and DRIVER: how many (what 0),"
                + " all DRIVERS (1), all COSTS (2).");
        Story s = Story.ofFirms(1, 1, 1);
        s.point(0, 9, 2, 5, 3, 70).point(1, 8, 2, 6, 3, 80).point(1, 7, 2, 7, 3, 90);
        int[][] due = {{2, 13, 170}, {1, 5, 70}, {3, 18, 240}};
        for (int firm = 0; firm < 3; firm++) {
            for (int what = 0; what < 3; what++) {
                int f = firm;
                int k = what;
                s.answers("of " + f + ", what " + k, due[f][k], x -> x.points(f, 3, 2, 2, k));
            }
        }
        s.answers("another HEAD", 0, x -> x.points(2, 2, 2, 2, 0));
        s.answers("another DRIVER", 0, x -> x.points(2, 3, 2, 1, 1));
        s.answers("another REVIEW", 0, x -> x.points(2, 3, 1, 2, 2));
        Check.says("Promise 17", "NONE: none such.");
        s.bounds("points", NONE, (x, a) -> x.points(a[0], a[1], a[2], a[3], a[4]),
                new int[] {0, 0, 0, 0, 0}, new int[] {0, 2}, new int[] {0, 3}, new int[] {0, 2},
                new int[] {0, 2}, new int[] {0, 2});
        Story beyond = beyond();
        beyond.refuses("what is KNOWN besides", NONE, x -> x.points(0, 4, 1, 0, 0),
                x -> x.points(0, -1, 1, 0, 0), x -> x.points(0, 0, 3, 0, 0),
                x -> x.points(0, 0, 1, 3, 0), x -> x.points(0, 3, 1, 7, 0));
    }

    /** FACTS that would be POINTS of a HEAD, DRIVER or REVIEW that is none such. */
    private static Story beyond() {
        Story s = Story.ofFirms(1, 1);
        for (int year : new int[] {0, 4, 9, 10, 14}) {
            for (int what = 0; what < 17; what++) {
                s.fact(1, year, what, 5 + what);
            }
        }
        return s;
    }

    private static void spans(String name, Story s, int itsX, int tells, int least, int most) {
        int[] due = {tells, least, most};
        for (int what = 0; what < 3; what++) {
            int k = what;
            s.answers(name + ", what " + k, due[k], x -> x.span(0, 0, 1, 0, itsX, k));
        }
    }

    private static void span() {
        Check.says("Terms 4", "SPAN: what \"line\" tells of an X by a FIRM's POINTS (held to 0 to"
                + " 999,999), and the least and the most of it, if one of the other FIRMS that have"
                + " POINTS were left out.");
        // FIRMS 1 to 3, one POINT each: 1 10, 2 30, 4 40.
        Story s = Story.ofFirms(1, 1, 1, 1, 1).point(1, 0, 0, 1, 0, 10).point(2, 1, 0, 2, 0, 30);
        s.point(3, 4, 0, 4, 0, 40);
        spans("at 3", s, 3, 32, 30, 50);
        spans("at 0", s, 0, 5, 0, 20);
        spans("at 999", s, 999, 9281, 5015, 19970);
        spans("its own is nothing", Story.of(s).point(0, 0, 0, 9, 0, 99999), 3, 32, 30, 50);
        spans("a FIRM without POINTS", Story.of(s).fact(4, 0, 0, 9), 3, 32, 30, 50);
        spans("nor with the COST alone", Story.of(s).fact(4, 0, 3, 9), 3, 32, 30, 50);
        // One of two left out: the other's POINT, as mean.
        Story two = Story.ofFirms(1, 1, 1).point(1, 0, 0, 2, 0, 10).point(2, 0, 0, 4, 0, 50);
        spans("of two", two, 3, 30, 15, 37);
        spans("nothing", two, 0, 0, 0, 0);
        spans("all tell less than each", two, 1, 0, 5, 12);
        spans("all tell more than each", two, 999, 19950, 4995, 12487);
        // All POINTS of a FIRM are left out together.
        Story many = Story.of(two).point(1, 1, 0, 6, 0, 10);
        spans("of several YEARS", many, 4, 23, 10, 50);
        // Without its only FIRM no POINTS are left: as mean, 0.
        Story one = Story.ofFirms(1, 1).point(1, 0, 0, 2, 0, 10);
        spans("of one", one, 3, 15, 0, 0);
        Story held = Story.ofFirms(1, 1, 1).point(1, 0, 0, 1, 0, 99999).point(2, 0, 0, 9, 0, 0);
        spans("held below and above", held, 999, 0, 0, 999999);
        Story rising = Story.ofFirms(1, 1, 1).point(1, 0, 0, 1, 0, 0).point(2, 0, 0, 2, 0, 99999);
        spans("all held above", rising, 999, 999999, 0, 999999);
        spans("the most is held, too", rising, 12, 999999, 0, 599994);
        spans("told as it is", rising, 11, 999990, 0, 549994);
        Story late = Story.of(two).day(501).fact(1, 0, 3, 999);
        spans("as KNOWN as the REVIEW is decided", late, 3, 30, 15, 37);
    }

    private static void promise25() {
        Check.says("Promise 25", "SPAN for a FIRM, HEAD, REVIEW, DRIVER and X (0 to 999): what it"
                + " tells (what 0), least (1), most (2).");
        Story s = Story.ofFirms(1, 1, 1);
        for (int head = 0; head < 4; head++) {
            for (int driver = 0; driver < 3; driver++) {
                s.point(1, 5, driver, 2, head, 10 + head).point(2, 9, driver, 4, head, 50);
            }
        }
        int[] due = {31, 19, 37};
        for (int what = 0; what < 3; what++) {
            int k = what;
            s.answers("what " + k, due[k], x -> x.span(0, 3, 2, 2, 3, k));
        }
        s.answers("X 999", 12487, x -> x.span(0, 0, 2, 0, 999, 2));
        Check.says("Promise 25", "NONE: none such, no POINTS.");
        Story all = Story.of(s);
        for (int year = 0; year < 5; year += 4) {
            all.point(1, year, 0, 2, 0, 10).point(2, year, 0, 4, 0, 50);
        }
        all.bounds("span", NONE, (x, a) -> x.span(a[0], a[1], a[2], a[3], a[4], a[5]),
                new int[] {0, 0, 2, 0, 5, 0}, new int[] {0, 2}, new int[] {0, 3},
                new int[] {1, 2}, new int[] {0, 2}, new int[] {0, 999}, new int[] {0, 2});
        all.answers("REVIEW 0 has no YEARS ahead", NONE, x -> x.span(0, 0, 0, 0, 5, 0));
        all.answers("REVIEW -1", NONE, x -> x.span(0, 0, -1, 0, 5, 0));
        beyond().refuses("what is KNOWN besides", NONE, x -> x.span(0, 4, 1, 0, 5, 0),
                x -> x.span(0, -1, 1, 0, 5, 0), x -> x.span(0, 0, 3, 0, 5, 0),
                x -> x.span(0, 0, 1, 3, 5, 0), x -> x.span(0, 3, 1, 7, 5, 0));
        for (int what = 0; what < 3; what++) {
            int k = what;
            Story.ofFirms(1, 1).point(0, 0, 0, 1, 0, 1).answers("its own alone", NONE,
                    x -> x.span(0, 0, 1, 0, 5, k));
            Story.ofFirms(1, 1).point(0, 0, 0, 1, 0, 1).answers("of the other one", k == 0 ? 5 : 0,
                    x -> x.span(1, 0, 1, 0, 5, k));
            Story.ofFirms(1, 1).point(1, 0, 0, 0, 0, 0).answers("a POINT of 0", 0,
                    x -> x.span(0, 0, 1, 0, 5, k));
        }
    }

    /** A YEAR's DRIVERS 0 to 2 and COST of HEAD 0. */
    private static Story year(Story s, int firm, int year, int a, int b, int c, int cost) {
        return s.fact(firm, year, 0, a).fact(firm, year, 1, b).fact(firm, year, 2, c)
                .fact(firm, year, 3, cost);
    }

    private static void moved(String name, Story s, int due) {
        s.answers(name, due, x -> x.moves(0, 0, 1));
    }

    private static void moves() {
        Check.says("Terms 4", "MOVES: the DRIVER by which all POINTS' COSTS less what \"line\" tells"
                + " of their DRIVERS (without their signs) are least together (the least of"
                + " several; one with POINTS).");
        for (int driver = 0; driver < 3; driver++) {
            Story s = Story.ofFirms(1, 1, 1);
            int[] on = {1, 2, 3, 4};
            int[] off = {3, 3, 1, 2};
            int[] cost = {10, 20, 30, 40};
            for (int year = 0; year < 4; year++) {
                year(s, 1 + year % 2, year, driver == 0 ? on[year] : off[year],
                        driver == 1 ? on[year] : off[year], driver == 2 ? on[year] : off[year],
                        cost[year]);
            }
            moved("DRIVER " + driver + " is on a line", s, driver);
        }
        Story same = Story.ofFirms(1, 1);
        year(same, 1, 0, 5, 5, 5, 10);
        year(same, 1, 1, 6, 6, 6, 50);
        year(same, 1, 2, 7, 7, 7, 20);
        moved("the least of several", same, 0);
        Story two = Story.ofFirms(1, 1);
        year(two, 1, 0, 5, 1, 1, 10);
        year(two, 1, 1, 5, 2, 2, 30);
        moved("the least of two", two, 1);
        // Off by 10 above and 10 below together are 20, not 0: DRIVER 0 (all 5) tells 20 of both.
        moved("without their signs", year(year(Story.ofFirms(1, 1), 1, 0, 5, 1, 3, 10), 1, 1, 5, 2,
                3, 30), 1);
        // Off by 10 twice isn't less than off by 15 once: they are taken together.
        Story together = Story.ofFirms(1, 1).point(1, 0, 1, 0, 0, 19).point(1, 0, 2, 7, 0, 19);
        together.point(1, 1, 2, 7, 0, 39);
        moved("by 20 together is more than by 19", together, 1);
        moved("by 20 together is less than by 21", Story.of(together).fact(1, 0, 3, 21)
                .fact(1, 1, 3, 41), 2);
        Story one = Story.ofFirms(1, 1).point(1, 0, 2, 7, 0, 70);
        moved("one with POINTS", one, 2);
        moved("of those with POINTS the least off", Story.of(one).fact(1, 0, 1, 0), 2);
        moved("POINTS of 0 are told as 0", Story.of(one).fact(1, 0, 1, 0).fact(1, 0, 3, 0), 1);
        // Far off a line of 0: DRIVER 0 tells 0 of each of 0.
        Story far = Story.ofFirms(1, 1);
        for (int year = 0; year < 5; year++) {
            far.point(1, year, 0, 0, 0, 99999).fact(1, year, 1, year % 2 * 999);
        }
        moved("the largest", far, 1);
        // DRIVER 0 has a POINT more than DRIVER 1, which tells both of its own.
        Story fewer = Story.ofFirms(1, 1).point(1, 0, 0, 5, 0, 10).point(1, 1, 0, 5, 0, 30);
        fewer.point(1, 2, 0, 7, 0, 1000).fact(1, 0, 1, 5).fact(1, 1, 1, 6);
        moved("those of one DRIVER are nothing to another one", fewer, 1);
        // Fifty POINTS: DRIVER 0 tells all COSTS but that of the last, DRIVER 1 but that of the first.
        Story fifty = Story.ofFirms(1, 1, 1, 1, 1, 1, 1, 1, 1, 1, 1);
        for (int i = 0; i < 50; i++) {
            fifty.fact(1 + i / 5, i % 5, 0, i < 49 ? 7 : 0).fact(1 + i / 5, i % 5, 1, i > 0 ? 7 : 0);
            fifty.fact(1 + i / 5, i % 5, 3, i == 49 ? 30 : i == 0 ? 20 : 10);
        }
        moved("the last of fifty counts", fifty, 0);
        moved("its own is nothing", year(Story.of(two), 0, 2, 9, 9, 0, 99999), 1);
    }

    private static void promise26() {
        Check.says("Promise 26", "MOVES. NONE: none such, no POINTS.");
        Story s = Story.ofFirms(1, 1, 1);
        for (int head = 0; head < 4; head++) {
            s.point(1, 4, 0, 5, head, 9).point(2, 4, 0, 7, head, 10);
            s.point(1, 5, 0, 5, head, 9).point(2, 9, 0, 7, head, 10);
            s.point(0, 0, 0, 5, head, 9);
        }
        s.bounds("moves", NONE, (x, a) -> x.moves(a[0], a[1], a[2]), new int[] {0, 0, 1},
                new int[] {0, 2}, new int[] {0, 3}, new int[] {1, 2});
        s.answers("REVIEW 0 has no YEARS ahead", NONE, x -> x.moves(0, 0, 0));
        beyond().refuses("what is KNOWN besides", NONE, x -> x.moves(0, 4, 1),
                x -> x.moves(0, -1, 1), x -> x.moves(0, 0, 3));
        Story.ofFirms(1, 1).answers("no POINTS", NONE, x -> x.moves(0, 0, 1));
        Story own = Story.ofFirms(1, 1).point(0, 4, 0, 5, 0, 9);
        own.answers("its own alone", NONE, x -> x.moves(0, 0, 1));
        own.answers("of the other one", 0, x -> x.moves(1, 0, 1));
        own.answers("another HEAD", NONE, x -> x.moves(1, 1, 1));
        own.answers("another REVIEW", NONE, x -> x.moves(1, 0, 2));
    }
}
