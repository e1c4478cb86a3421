/**
 * The edges of what goes to the bills, a test for each sentence: what Terms 3 say of SHARED and
 * behind it, what Terms 4 say of TOLD LINES, and Promises 18 to 22, 31 and 33.
 */
final class EdgeLinesTest {
    private static final int NONE = -1;
    private static final long NO_COINS = -2_000_000_000_000L;
    private static final int MIN = Integer.MIN_VALUE;
    private static final int MAX = Integer.MAX_VALUE;

    private EdgeLinesTest() {
    }

    public static void main(String[] args) {
        shared();
        earned();
        works();
        back();
        worth();
        returned();
        logged();
        lines();
        bills();
        tilt();
        tiltBelowZero();
        homes();
        promise18();
        promise19();
        promise20();
        promise21();
        promise22();
        toldLines();
        promise31();
        promise33();
        Check.end();
    }

    /** RULES from REVIEW 0 on, told on DAY 0, and a FIRM. */
    private static Story by(String rules, int worth) {
        return new Story().rules(0, rules).then(x -> x.firm(worth));
    }

    private static void line(String name, Story s, int year, int k, long due) {
        s.answers(name, due, x -> x.line(0, year, 1499, k));
    }

    // ---- SHARED

    /** What of a COST and what is ALLOWED is SHARED, by the hundredths of "share". */
    private static void shares(int first, int second, int cost, int allowed, long due) {
        Story s = by("share run " + first + " " + second + ";", 0).bench(0, 0, 3, allowed);
        line(cost + " less " + allowed + " by " + first + " " + second,
                s.fact(0, 3, 3, cost), 4, 10, due);
    }

    private static void shared() {
        Check.says("Terms 3", "SHARED of a HEAD for a YEAR as KNOWN by a DAY: OTHER: COST (KNOWN by"
                + " it; without: 0 is SHARED) less ALLOWED.");
        Story s = by("", 0).bench(0, 0, 3, 100);
        line("without COST", s, 4, 10, 0);
        line("COST 0", Story.of(s).fact(0, 3, 3, 0), 4, 10, -100);
        line("COST 99", Story.of(s).fact(0, 3, 3, 99), 4, 10, -1);
        line("COST 100", Story.of(s).fact(0, 3, 3, 100), 4, 10, 0);
        line("COST 101", Story.of(s).fact(0, 3, 3, 101), 4, 10, 1);
        line("of another HEAD", Story.of(s).fact(0, 3, 4, 101), 4, 10, 0);
        line("of another YEAR", Story.of(s).fact(0, 4, 3, 101), 4, 10, 0);
        Story days = Story.of(s).day(400).fact(0, 3, 3, 130).day(450).bench(0, 0, 3, 110);
        int[] day = {0, 399, 400, 449, 450};
        int[] due = {0, 0, 30, 30, 20};
        for (int i = 0; i < day.length; i++) {
            int d = day[i];
            days.answers("as KNOWN by " + d, due[i], x -> x.line(0, 4, d, 10));
        }
        Check.says("Terms 3", "Above 0 the FIRM bears the first hundredths of \"share\" of it, below"
                + " 0 it keeps the second ones (cut towards 0; without \"share\" 0): what is left of"
                + " OTHER goes to the bills of the next YEAR.");
        shares(40, 70, 200, 100, 60);
        shares(40, 70, 0, 100, -30);
        shares(40, 70, 100, 100, 0);
        shares(0, 100, 200, 100, 100);
        shares(0, 100, 0, 100, 0);
        shares(100, 0, 200, 100, 0);
        shares(100, 0, 0, 100, -100);
        // 99 hundredths of 1 are 0, cut towards 0 on both sides.
        shares(99, 99, 101, 100, 1);
        shares(99, 99, 99, 100, -1);
        shares(50, 50, 103, 100, 2);
        shares(50, 50, 97, 100, -2);
        shares(33, 33, 110, 100, 7);
        shares(33, 33, 90, 100, -7);
        shares(1, 1, 199, 0, 198);
        shares(1, 1, 0, 199, -198);
        shares(99, 99, 99999, 0, 1000);
        shares(99, 99, 0, 99999, -1000);
        line("without share, above", Story.of(s).fact(0, 3, 3, 160), 4, 10, 60);
        line("without share, below", Story.of(s).fact(0, 3, 3, 40), 4, 10, -60);
        line("of another HEAD's share", by("share pipes 50 50;", 0).fact(0, 3, 3, 60), 4, 10, 60);
        Story next = by("share run 50 0;share run 0 0 unless year=3;", 0).fact(0, 3, 3, 60);
        line("in the YEAR itself", next, 3, 10, 0);
        line("in the next YEAR, by share of the YEAR", next, 4, 10, 30);
        line("in the YEAR behind it", next, 5, 10, 0);
        Story edge = new Story().rules(0, "share run 50 0;").rules(1, "share run 0 0;");
        line("by share of the REVIEW ahead", edge.then(x -> x.firm(0)).fact(0, 4, 3, 60), 5, 10,
                30);
        line("of YEAR 13", by("", 0).fact(0, 13, 3, 60), 14, 10, 60);
        line("of YEAR 0", by("", 0).fact(0, 0, 3, 60), 1, 10, 60);
        for (int head = 0; head < 4; head++) {
            line("of HEAD " + head, by("", 0).fact(0, 3, 3 + head, 60), 4, 10 + head, 60);
        }
    }

    // ---- EARNED

    private static void earns(String target, int output, long due) {
        line(target + " with " + output, by("target 1 " + target + ";", 0).fact(0, 3, 15, output),
                4, 8, due);
    }

    private static void earned() {
        Check.says("Terms 3",
                "EARNED of an OUTPUT for a YEAR as KNOWN by a DAY (without it or \"target\": 0):");
        String target = "target 1 more 10 step 1 coin 7 dead 0 cap 9999;";
        line("without OUTPUT", by(target, 0), 4, 8, 0);
        line("of another OUTPUT", by(target, 0).fact(0, 3, 14, 50).fact(0, 3, 16, 50), 4, 8, 0);
        line("of another YEAR", by(target, 0).fact(0, 4, 15, 50), 4, 8, 0);
        line("without target", by("", 0).fact(0, 3, 15, 50), 4, 8, 0);
        line("OUTPUT 0", by(target, 0).fact(0, 3, 15, 0), 4, 8, -70);
        Story days = by(target, 0).day(400).fact(0, 3, 15, 12).day(450).fact(0, 3, 15, 11);
        int[] day = {0, 399, 400, 449, 450};
        int[] due = {0, 0, 14, 14, 7};
        for (int i = 0; i < day.length; i++) {
            int d = day[i];
            days.answers("as KNOWN by " + d, due[i], x -> x.line(0, 4, d, 8));
        }
        Check.says("Terms 3", "BY: OUTPUT less the target's NUMBER (\"less\": the other way round);");
        earns("more 40 step 1 coin 1 dead 0 cap 9999", 40, 0);
        earns("more 40 step 1 coin 1 dead 0 cap 9999", 41, 1);
        earns("more 40 step 1 coin 1 dead 0 cap 9999", 39, -1);
        earns("less 40 step 1 coin 1 dead 0 cap 9999", 40, 0);
        earns("less 40 step 1 coin 1 dead 0 cap 9999", 41, -1);
        earns("less 40 step 1 coin 1 dead 0 cap 9999", 39, 1);
        earns("more 0 step 1 coin 1 dead 0 cap 9999", 9999, 9999);
        earns("more 99999 step 1 coin 1 dead 0 cap 99999", 0, -99999);
        Check.says("Terms 3", "its size less \"dead\" (0 at least) by \"step\" (cut) times \"coin\","
                + " \"cap\" at most; below 0, if BY is.");
        earns("more 40 step 1 coin 1 dead 3 cap 9999", 42, 0);
        earns("more 40 step 1 coin 1 dead 3 cap 9999", 43, 0);
        earns("more 40 step 1 coin 1 dead 3 cap 9999", 44, 1);
        earns("more 40 step 1 coin 1 dead 3 cap 9999", 38, 0);
        earns("more 40 step 1 coin 1 dead 3 cap 9999", 37, 0);
        earns("more 40 step 1 coin 1 dead 3 cap 9999", 36, -1);
        earns("more 40 step 5 coin 3 dead 0 cap 9999", 44, 0);
        earns("more 40 step 5 coin 3 dead 0 cap 9999", 45, 3);
        earns("more 40 step 5 coin 3 dead 0 cap 9999", 49, 3);
        earns("more 40 step 5 coin 3 dead 0 cap 9999", 50, 6);
        earns("more 40 step 5 coin 3 dead 0 cap 9999", 36, 0);
        earns("more 40 step 5 coin 3 dead 0 cap 9999", 35, -3);
        earns("more 40 step 5 coin 3 dead 2 cap 9999", 46, 0);
        earns("more 40 step 5 coin 3 dead 2 cap 9999", 47, 3);
        earns("more 40 step 1 coin 3 dead 0 cap 6", 42, 6);
        earns("more 40 step 1 coin 3 dead 0 cap 7", 42, 6);
        earns("more 40 step 1 coin 3 dead 0 cap 5", 42, 5);
        earns("more 40 step 1 coin 3 dead 0 cap 5", 38, -5);
        earns("more 40 step 1 coin 3 dead 0 cap 7", 38, -6);
        earns("more 40 step 1 coin 3 dead 0 cap 0", 50, 0);
        earns("more 40 step 1 coin 0 dead 0 cap 9", 50, 0);
        earns("less 0 step 99999 coin 9 dead 0 cap 99", 9999, 0);
        earns("less 99999 step 99999 coin 9 dead 0 cap 99", 0, 9);
        earns("less 99999 step 99999 coin 9 dead 1 cap 99", 0, 0);
        earns("more 0 step 1 coin 9 dead 99999 cap 99", 9999, 0);
        // 9,999,800,001 ahead of the cap: more than an int holds.
        earns("less 99999 step 1 coin 99999 dead 0 cap 99999", 0, 99999);
        earns("more 99999 step 1 coin 99999 dead 0 cap 99999", 0, -99999);
        earns("less 99999 step 2 coin 85899 dead 0 cap 99999", 0, 99999);
        Check.says("Terms 3", "It goes to the next YEAR's.");
        Story s = by("target 0 more 0 step 1 coin 2 dead 0 cap 99 unless not year=3;"
                + "target 1 more 0 step 1 coin 2 dead 0 cap 99 unless year=3;"
                + "target 2 more 0 step 1 coin 2 dead 0 cap 99;", 0);
        for (int output = 0; output < 3; output++) {
            s.fact(0, 3, 14 + output, 5);
        }
        int[][] due2 = {{0, 10, 0}, {0, 0, 0}, {0, 10, 0}};
        for (int output = 0; output < 3; output++) {
            for (int year = 3; year < 6; year++) {
                line("OUTPUT " + output + " in " + year, s, year, 7 + output,
                        due2[output][year - 3]);
            }
        }
        Story edge = new Story().rules(0, "target 0 more 0 step 1 coin 2 dead 0 cap 99;")
                .rules(1, "").then(x -> x.firm(0)).fact(0, 4, 14, 5).fact(0, 5, 14, 6);
        line("by the target of the REVIEW ahead", edge, 5, 7, 10);
        line("no target in REVIEW 1", edge, 6, 7, 0);
        Story all = by("target 0 more 0 step 1 coin 2 dead 0 cap 99;", 0);
        line("of YEAR 13", all.fact(0, 13, 14, 5).fact(0, 0, 14, 6), 14, 7, 10);
        line("of YEAR 0", all, 1, 7, 12);
    }

    // ---- WORKS, BACK, WORTH, RETURN, LOGGED

    private static void works() {
        Check.says("Terms 3", "WORKS: of those due in a YEAR all coins.");
        Story s = by("", 0).then(x -> x.firm(0));
        line("none", s, 3, 5, 0);
        s.work(0, 99999, 3).work(0, 1, 3).work(0, 20, 4).work(1, 7, 3).work(0, 300, 2);
        line("both of YEAR 3", s, 3, 5, 100000);
        line("of YEAR 4", s, 4, 5, 20);
        line("of YEAR 2", s, 2, 5, 300);
        s.answers("of FIRM 1", 7, x -> x.line(1, 3, 0, 5));
        line("DONE ones too", Story.of(s).done(0), 3, 5, 100000);
        s.answers("told later than the DAY asked by", 100000, x -> x.line(0, 3, 0, 5));
        Story.of(s).day(900).work(0, 5, 3).answers("told when the YEAR is gone", 100005,
                x -> x.line(0, 3, 0, 5));
        Story most = by("", 0);
        for (int i = 0; i < 40; i++) {
            most.work(0, 99999, 14);
        }
        line("the most", most, 14, 5, 3999960);
    }

    private static void back() {
        Check.says("Terms 3", "BACK of a YEAR: of each due ahead of it that wasn't DONE as it BEGAN:"
                + " BACK hundredths (cut)");
        Story s = by("back 50;", 0).work(0, 7, 3);
        line("as it is due", s, 3, 6, 0);
        line("in the YEAR behind", s, 4, 6, -3);
        int[] days = {0, 399, 400, 401, 499, 500};
        int[] first = {0, 0, -3, -3, -3, -3};
        int[] second = {0, 0, 0, 0, 0, -3};
        for (int i = 0; i < days.length; i++) {
            Story done = Story.of(s).day(days[i]).done(0);
            line("DONE on " + days[i] + ": YEAR 4", done, 4, 6, first[i]);
            line("DONE on " + days[i] + ": YEAR 5", done, 5, 6, second[i]);
        }
        line("of another FIRM", by("back 50;", 0).then(x -> x.firm(0)).then(x -> x.work(1, 7, 3)),
                4, 6, 0);
        line("each is cut", by("back 50;", 0).work(0, 7, 3).work(0, 9, 2).work(0, 99, 4), 4, 6,
                -3 - 4);
        line("of 1 coin", by("back 99;", 0).work(0, 1, 3), 4, 6, 0);
        line("of 99,999", by("back 99;", 0).work(0, 99999, 3), 4, 6, -98999);
        line("all", by("back 100;", 0).work(0, 99999, 3), 4, 6, -99999);
        line("nothing", by("back 0;", 0).work(0, 99999, 3), 4, 6, 0);
        line("due in YEAR 0", by("back 50;", 0).work(0, 8, 0), 1, 6, -4);
        line("in YEAR 14", by("back 50;", 0).work(0, 8, 13), 14, 6, -4);
        line("YEAR 0 has nothing ahead", by("back 50;", 0).work(0, 8, 0), 0, 6, 0);
        line("by BACK of the YEAR", by("back 50 unless year=4;back 10 unless not year=4;", 0)
                .work(0, 100, 3), 4, 6, -10);
        Check.says("Terms 3", "at most what hasn't been taken back of it in YEARS ahead.");
        int[] due = {0, -40, -40, -20, 0, 0};
        Story forty = by("back 40;", 0).work(0, 100, 3);
        for (int i = 0; i < due.length; i++) {
            line("40 of 100 in YEAR " + (3 + i), forty, 3 + i, 6, due[i]);
        }
        Story half = by("back 50;", 0).work(0, 100, 3);
        line("the second half", half, 5, 6, -50);
        line("nothing is left", half, 6, 6, 0);
        Story odd = by("back 50;", 0).work(0, 7, 3);
        line("3 of 7", odd, 5, 6, -3);
        line("the last 1 of 7", odd, 6, 6, -1);
        line("no more of 7", odd, 7, 6, 0);
        Story other = by("back 40;", 0).work(0, 100, 3).work(0, 100, 4);
        line("of each by itself", other, 6, 6, -20 - 40);
        Story rules = by("back 70 unless year=5;back 100 unless not year=6;", 0).work(0, 100, 3);
        line("70 in YEAR 4", rules, 4, 6, -70);
        line("nothing in YEAR 5", rules, 5, 6, 0);
        line("30 are left in YEAR 6", rules, 6, 6, -30);
        Story reviews = new Story().rules(0, "back 60;").rules(1, "back 30;").rules(2, "back 9;");
        reviews.then(x -> x.firm(0)).work(0, 100, 3);
        line("60 by REVIEW 0", reviews, 4, 6, -60);
        line("30 by REVIEW 1", reviews, 5, 6, -30);
        line("10 are left", reviews, 6, 6, -10);
    }

    /** WORTH of each YEAR, from YEAR 0 on. */
    private static void worths(String name, Story s, long... due) {
        for (int year = 0; year < due.length; year++) {
            int y = year;
            s.answers(name + ", YEAR " + y, due[y], x -> x.worth(0, y));
        }
    }

    private static void worth() {
        Check.says("Terms 3", "WORTH of the next YEAR: it times INDEX by 100, cut, and coins of"
                + " WORKS DONE in the YEAR, less it times WEAR by 100, cut.");
        worths("INDEX 150", by("index 150;", 3), 3, 4, 6, 9, 13, 19, 28);
        worths("INDEX 50", by("index 50;", 15), 15, 7, 3, 1, 0, 0);
        worths("WEAR 50", by("wear 50;", 15), 15, 8, 4, 2, 1, 1, 1);
        worths("WEAR 100", by("wear 100;", 15), 15, 0, 0);
        worths("WEAR 1", by("wear 1;", 199), 199, 198, 197);
        worths("WEAR 1 of 99", by("wear 1;", 99), 99, 99);
        // Both are cut for themselves: 103.5 and 10.3 of 103, not 113.3 less.
        worths("both", by("index 105;wear 10;", 103), 103, 98, 93);
        worths("WEAR of WORTH as it was, not as it rose", by("index 150;wear 50;", 101), 101, 101);
        Story done = by("index 110;wear 20;", 1000).work(0, 60, 9).work(0, 7, 0);
        worths("WORKS DONE", Story.of(done).day(99).done(0).day(100).done(1), 1000, 960, 871, 784);
        worths("neither risen nor worn in the YEAR", Story.of(done).done(0), 1000, 960, 864);
        worths("of another FIRM", by("", 5).then(x -> x.firm(0)).then(x -> x.work(1, 9, 0)).done(0),
                5, 5);
        worths("by the YEAR's RULES", by("index 150 unless year=1;wear 50 unless not year=2;", 100),
                100, 150, 150, 150, 225);
        Story reviews = new Story().rules(1, "index 150;").rules(2, "index 50;");
        worths("by the REVIEW's RULES", reviews.then(x -> x.firm(100)), 100, 100, 100, 100, 100,
                100, 150, 225, 337, 505, 757, 378, 189, 94, 47);
        worths("below 0", by("index 50;wear 100;", 1001), 1001, -501, 251, -126, 63, -32, 16);
        worths("the most", richest(""), 999999, 5499958, 8249937, 12374905, 18562357, 27843535, 41765302,
                62647953, 93971929, 140957893, 211436839, 317155258, 475732887, 713599330,
                1070398995);
    }

    private static void returned() {
        Check.says("Terms 3", "RETURN: WORTH times RETURN by 1,000, cut.");
        int[][] rows = {{1000, 500, 500}, {999, 500, 499}, {1, 500, 0}, {2, 500, 1}, {1999, 1, 1},
            {999, 1, 0}, {1000, 1, 1}, {1000, 0, 0}, {999999, 500, 499999}, {12345, 37, 456}};
        for (int[] row : rows) {
            line(row[1] + " of " + row[0], by("return " + row[1] + ";", row[0]), 0, 4, row[2]);
        }
        Story s = by("index 150;return 100;return 200 unless not year=2;", 100);
        line("of WORTH as the YEAR begins", s, 1, 4, 15);
        line("by RETURN of the YEAR", s, 2, 4, 45);
        line("of WORTH below 0, cut", by("index 50;wear 100;return 500;", 1001), 1, 4, -250);
        line("of the most WORTH", richest(""), 14, 4, 535199497);
    }

    private static void logged() {
        Check.says("Terms 3", "LOGGED: all coins for a YEAR KNOWN by the DAY, if they're at least LOG"
                + " hundredths (cut) of what is ALLOWED for it in all HEADS; else 0.");
        Story s = by("log 33;", 0).bench(0, 0, 3, 100).bench(0, 1, 3, 50).bench(0, 2, 3, 25);
        s.bench(0, 3, 3, 24);
        // 33 hundredths of 199 are 65.67: 65 are enough.
        line("none", s, 3, 14, 0);
        line("64", Story.of(s).log(0, 3, 64), 3, 14, 0);
        line("65", Story.of(s).log(0, 3, 65), 3, 14, 65);
        line("66", Story.of(s).log(0, 3, 66), 3, 14, 66);
        line("64 and 1", Story.of(s).log(0, 3, 64).log(0, 3, 1), 3, 14, 65);
        line("63 and 1", Story.of(s).log(0, 3, 63).log(0, 3, 1), 3, 14, 0);
        line("of another YEAR", Story.of(s).log(0, 3, 64).log(0, 2, 9), 3, 14, 0);
        line("of another FIRM", Story.of(s).then(x -> x.firm(0)).log(0, 3, 64).log(1, 3, 9), 3, 14,
                0);
        line("another YEAR has nothing ALLOWED", Story.of(s).log(0, 4, 1), 4, 14, 1);
        Story days = Story.of(s).log(0, 3, 40).day(9).log(0, 3, 30).day(20).bench(0, 3, 3, 99);
        int[] day = {0, 8, 9, 19, 20};
        int[] due = {0, 0, 70, 70, 0};
        for (int i = 0; i < day.length; i++) {
            int d = day[i];
            days.answers("as KNOWN by " + d, due[i], x -> x.line(0, 3, d, 14));
        }
        Story all = by("log 100;", 0).bench(0, 0, 3, 99999).bench(0, 1, 3, 99999);
        line("LOG 100 of 199,998, one less", Story.of(all).log(0, 3, 99999).log(0, 3, 99998), 3, 14,
                0);
        line("LOG 100 of 199,998", Story.of(all).log(0, 3, 99999).log(0, 3, 99999), 3, 14, 199998);
        line("LOG 0", by("log 0;", 0).bench(0, 0, 3, 99999).log(0, 3, 1), 3, 14, 1);
        line("by LOG of the YEAR", by("log 100 unless year=3;", 0).bench(0, 0, 3, 99999)
                .log(0, 3, 1), 3, 14, 1);
        for (int head = 0; head < 4; head++) {
            line("ALLOWED in HEAD " + head, by("log 100;", 0).bench(0, head, 3, 10).log(0, 3, 9),
                    3, 14, 0);
        }
        Story twenty = by("", 0);
        for (int i = 0; i < 20; i++) {
            twenty.log(0, 14, 99999);
        }
        line("the most", twenty, 14, 14, 1999980);
    }

    // ---- LINES, REVENUE, BILLS, HOMES

    /** A FIRM whose LINES of YEAR 3 are all others; those of YEAR 0 are, too, if it has any. */
    private static Story allLines() {
        Story s = by("return 100;back 10;allow run plan 100;allow pipes plan 100;"
                + "allow power plan 100;allow other plan 100;target 0 more 0 step 1 coin 1 dead 0"
                + " cap 99;target 1 less 9 step 1 coin 1 dead 0 cap 99;target 2 more 9 step 1 coin"
                + " 3 dead 0 cap 99;share pipes 50 50;", 1000);
        for (int head = 0; head < 4; head++) {
            s.fact(0, 0, 7 + head, 11 + head).fact(0, 3, 7 + head, 21 + head);
            s.fact(0, 2, 3 + head, 200 + 50 * head);
        }
        for (int output = 0; output < 3; output++) {
            s.fact(0, 2, 14 + output, 7 - output).fact(0, 0, 14 + output, 77);
        }
        return s.work(0, 500, 1).work(0, 33, 3).work(0, 44, 0).log(0, 3, 12);
    }

    private static void lines() {
        Check.says("Terms 3", "LINES of a FIRM's YEAR as KNOWN by a DAY: 0 to 3 ALLOWED by HEADS,"
                + " 4 RETURN, 5 WORKS, 6 BACK (below 0), 7 to 9 EARNED of the YEAR ahead by OUTPUTS,"
                + " 10 to 13 SHARED of the YEAR ahead by HEADS, 14 LOGGED");
        long[] due = {21, 22, 23, 24, 100, 33, -54, 7, 3, -12, 200, 125, 300, 350, 12};
        Story s = allLines();
        for (int k = 0; k < 15; k++) {
            line("LINE " + k, s, 3, k, due[k]);
        }
        Check.says("Terms 3", "(YEAR 0: nothing of a YEAR ahead).");
        long[] year0 = {11, 12, 13, 14, 100, 44, 0, 0, 0, 0, 0, 0, 0, 0, 0};
        Story first = Story.of(s);
        for (int head = 0; head < 4; head++) {
            first.fact(0, 0, 3 + head, 900);
        }
        for (int k = 0; k < 15; k++) {
            line("LINE " + k + " of YEAR 0", first, 0, k, year0[k]);
        }
        Check.says("Terms 3", "REVENUE: all.");
        s.answers("of YEAR 3", 1154, x -> x.revenue(0, 3, 0));
        first.answers("of YEAR 0", 194, x -> x.revenue(0, 0, 0));
        by("", 0).answers("of nothing", 0, x -> x.revenue(0, 3, 0));
        for (int k = 0; k < 15; k++) {
            for (int year = 1; year < 15; year++) {
                oneLine(k, year);
            }
        }
    }

    /** A FIRM that has nothing but one LINE of a YEAR. */
    private static void oneLine(int k, int year) {
        Story s = by("return 100 unless not firm=4;target 0 more 0 step 1 coin 1 dead 0 cap 99;"
                + "target 1 more 0 step 1 coin 1 dead 0 cap 99;target 2 more 0 step 1 coin 1 dead 0"
                + " cap 99;back 10;", 0);
        if (k <= 3) {
            s.bench(0, k, year, 5);
        } else if (k == 4) {
            s = by("return 5 unless not year=" + year + ";", 1000);
        } else if (k == 5) {
            s.work(0, 5, year);
        } else if (k == 6) {
            s.work(0, 50, year - 1);
        } else if (k <= 9) {
            s.fact(0, year - 1, 14 + k - 7, 5);
        } else if (k <= 13) {
            s.fact(0, year - 1, 3 + k - 10, 5);
        } else {
            s.log(0, year, 5);
        }
        s.answers("REVENUE of LINE " + k + " alone", k == 6 ? -5 : 5,
                x -> x.revenue(0, year, 1499));
        line("LINE " + k + " alone", s, year, k, k == 6 ? -5 : 5);
    }

    /** WORKS make a REVENUE of each YEAR. */
    private static Story revenues(Story s, int first, int... coins) {
        for (int i = 0; i < coins.length; i++) {
            if (coins[i] > 0) {
                s.work(0, coins[i], first + i);
            }
        }
        return s;
    }

    /** BILLS and what is carried on, of each YEAR from one on. */
    private static void billed(String name, Story s, int first, long... due) {
        for (int i = 0; i < due.length; i++) {
            int year = first + i / 2;
            int what = i % 2;
            s.answers(name + ", YEAR " + year + ", what " + what, due[i],
                    x -> x.bills(0, year, 1499, what));
        }
    }

    private static void bills() {
        Check.says("Terms 3",
                "BILLS, from the REVIEW's first YEAR on: that of the first is REVENUE;");
        for (int year = 0; year < 15; year += 5) {
            billed("the first", revenues(by("tilt 10;", 0), year, 500), year, 500, 0);
            billed("not tilted", revenues(by("tilt 10;", 0), Math.max(0, year - 1),
                    year == 0 ? 700 : 100, year == 0 ? 5 : 700), year, 700, 0);
        }
        Check.says("Terms 3", "of the next ones REVENUE and what was carried");
        billed("without tilt", revenues(by("", 0), 0, 100, 900, 1, 300, 7), 0, 100, 0, 900, 0, 1, 0,
                300, 0, 7, 0);
        billed("with tilt 50", revenues(by("tilt 50;", 0), 5, 100, 170, 100, 200), 5, 100, 0, 150,
                20, 120, 0, 180, 20, 20, 0);
        Check.says("Terms 3", "the last YEAR has all.");
        billed("all of it", revenues(by("tilt 0;", 0), 5, 100, 900, 1, 300, 7), 5, 100, 0, 100, 800,
                100, 701, 100, 901, 908, 0);
        billed("below 0", revenues(by("tilt 0;", 0), 0, 100, 10, 20, 30, 40), 0, 100, 0, 100, -90,
                100, -170, 100, -240, -200, 0);
        billed("nothing is carried to the next REVIEW", revenues(by("tilt 0;", 0), 3, 70, 500, 9, 8),
                3, 0, 70, 570, 0, 9, 0, 9, -1);
        billed("the last YEAR of all", revenues(by("tilt 0;", 0), 10, 100, 9, 9, 9, 9), 14, -264, 0);
        billed("YEAR 3 isn't the last", revenues(by("tilt 0;", 0), 10, 100, 9, 9, 9, 9), 13, 100,
                -273);
    }

    private static void tilt() {
        Check.says("Terms 3", "but with a \"tilt\" (of that YEAR) not above 100 and TILT,");
        billed("at it", revenues(by("tilt 15;", 0), 5, 1003, 1153), 5, 1003, 0, 1153, 0);
        billed("above it by 1", revenues(by("tilt 15;", 0), 5, 1003, 1154), 5, 1003, 0, 1153, 1);
        billed("below it by 1", revenues(by("tilt 15;", 0), 5, 1003, 1152), 5, 1003, 0, 1152, 0);
        billed("TILT 100", revenues(by("tilt 100;", 0), 5, 100, 201), 5, 100, 0, 200, 1);
        billed("TILT 0", revenues(by("tilt 0;", 0), 5, 100, 101), 5, 100, 0, 100, 1);
        billed("of that YEAR", revenues(by("tilt 10 unless year=6;", 0), 5, 100, 300, 400), 5, 100,
                0, 300, 0, 330, 70);
        billed("of that YEAR alone", revenues(by("tilt 10 unless not year=6;", 0), 5, 100, 300, 400,
                5), 5, 100, 0, 110, 190, 590, 0, 5, 0);
        billed("nothing ahead", revenues(by("tilt 100;", 0), 6, 300), 5, 0, 0, 0, 300, 0, 300, 0,
                300, 300, 0);
        Check.says("Terms 3", "nor (which goes first) below 100 less TILT hundredths (cut) of the"
                + " BILLS of the YEAR ahead; the rest is carried;");
        billed("at it", revenues(by("tilt 15;", 0), 5, 1003, 852), 5, 1003, 0, 852, 0);
        billed("below it by 1", revenues(by("tilt 15;", 0), 5, 1003, 851), 5, 1003, 0, 852, -1);
        billed("above it by 1", revenues(by("tilt 15;", 0), 5, 1003, 853), 5, 1003, 0, 853, 0);
        billed("TILT 100", revenues(by("tilt 100;", 0), 5, 100), 5, 100, 0, 0, 0);
        billed("TILT 0", revenues(by("tilt 0;", 0), 5, 100, 99), 5, 100, 0, 100, -1);
        billed("of the BILLS, not of REVENUE", revenues(by("tilt 10;", 0), 5, 100, 200, 300, 1), 5,
                100, 0, 110, 90, 121, 269, 133, 137, 137, 0);
        Story days = revenues(by("tilt 10;", 0), 5, 100).day(300).log(0, 6, 500).day(310)
                .log(0, 5, 100);
        int[] day = {299, 300, 309, 310};
        int[] due = {90, 110, 110, 220};
        for (int i = 0; i < day.length; i++) {
            int d = day[i];
            days.answers("as KNOWN by " + d, due[i], x -> x.bills(0, 6, d, 0));
        }
        // RETURN of YEAR 10 is 105,718,419, of YEAR 11 158,577,629: times 100 more than an int holds.
        billed("the most by TILT 0", richest("tilt 0;"), 10, 105718419, 0, 105718419, 52859210);
        billed("the most by TILT 50", richest("tilt 50;"), 10, 105718419, 0, 158577628, 1);
        billed("the most by TILT 51", richest("tilt 51;"), 10, 105718419, 0, 158577629, 0);
    }

    /** The most WORTH that a FIRM can have, and the most RETURN of it. */
    private static Story richest(String rules) {
        Story s = by("index 150;return 500;" + rules, 999999);
        for (int i = 0; i < 40; i++) {
            s.work(0, 99999, 0).done(i);
        }
        return s;
    }

    /** BILLS below 0 ahead: what goes first is above what goes second, and is kept. */
    private static void tiltBelowZero() {
        Check.says("Terms 3", "nor (which goes first) below 100 less TILT hundredths (cut)");
        String rules = "tilt 10;target 0 less 0 step 1 coin 100 dead 0 cap 99999;";
        billed("REVENUE 0", by(rules, 0).fact(0, 4, 14, 10), 5, -1000, 0, -900, 900, -810, 1710,
                -729, 2439, 2439, 0);
        billed("REVENUE far below", by(rules, 0).fact(0, 4, 14, 10).fact(0, 5, 14, 90), 5, -1000,
                0, -900, -8100);
        billed("REVENUE far above", by(rules, 0).fact(0, 4, 14, 10).work(0, 99999, 6), 5, -1000, 0,
                -900, 100899);
        billed("cut towards 0", by("tilt 33;target 0 less 0 step 1 coin 1 dead 0 cap 99999;", 0)
                .fact(0, 4, 14, 10), 5, -10, 0, -6, 6);
    }

    private static void pays(String name, Story s, int year, long... due) {
        for (int what = 0; what < due.length; what++) {
            int k = what;
            s.answers(name + ", what " + k, due[k], x -> x.home(0, year, 1499, k));
        }
    }

    private static void homes() {
        Check.says("Terms 3", "A HOME of kind 0, 1, 2 pays 2, 3, 5 parts: BILLS times parts by all"
                + " homes' parts (as KNOWN by the DAY, of that YEAR; 0 without), cut.");
        Story s = by("tilt 0;", 0).work(0, 1000, 0).work(0, 7, 1);
        pays("without homes", s, 1, 0, 0, 0, 1000);
        pays("0 homes", Story.of(s).fact(0, 1, 11, 0).fact(0, 1, 12, 0).fact(0, 1, 13, 0), 1, 0, 0,
                0, 1000);
        pays("of another YEAR", Story.of(s).fact(0, 0, 11, 5).fact(0, 2, 12, 5), 1, 0, 0, 0, 1000);
        pays("one of kind 0", Story.of(s).fact(0, 1, 11, 1), 1, 1000, 1500, 2500, 0);
        pays("one of kind 1", Story.of(s).fact(0, 1, 12, 1), 1, 666, 1000, 1666, 0);
        pays("one of kind 2", Story.of(s).fact(0, 1, 13, 1), 1, 400, 600, 1000, 0);
        pays("one of each", Story.of(s).fact(0, 1, 11, 1).fact(0, 1, 12, 1).fact(0, 1, 13, 1), 1,
                200, 300, 500, 0);
        pays("three of kind 0", Story.of(s).fact(0, 1, 11, 3), 1, 333, 500, 833, 1);
        pays("the most homes", Story.of(s).fact(0, 1, 11, 9999).fact(0, 1, 12, 9999)
                .fact(0, 1, 13, 9999), 1, 0, 0, 0, 1000);
        pays("BILLS, not REVENUE", Story.of(s).fact(0, 1, 11, 5), 1, 200);
        Story days = Story.of(s).day(9).fact(0, 1, 11, 2).day(20).fact(0, 1, 12, 2);
        int[] day = {8, 9, 19, 20};
        int[] due = {0, 500, 500, 200};
        for (int i = 0; i < day.length; i++) {
            int d = day[i];
            days.answers("as KNOWN by " + d, due[i], x -> x.home(0, 1, d, 0));
        }
        // YEAR 4 has what was carried: 7 less 3,000.
        pays("below 0, cut towards 0", Story.of(s).fact(0, 4, 11, 2).fact(0, 4, 12, 1), 4, -855,
                -1282, -2137, -2993 + 2 * 855 + 1282);
        Story most = richest("");
        // 535,199,497 times 5 is more than an int holds.
        pays("of the most BILLS", most.fact(0, 14, 13, 1), 14, 214079798, 321119698, 535199497, 0);
        pays("by many homes", most.fact(0, 14, 13, 9999), 14, 21410, 32115, 53525,
                535199497L - 53525L * 9999);
    }

    // ---- Promises

    private static void promise18() {
        Check.says("Promise 18", "WORTH as a YEAR BEGINS.");
        Story s = by("index 110;", 1000).then(x -> x.firm(0)).then(x -> x.firm(500));
        s.answers("YEAR 0", 1000, x -> x.worth(0, 0));
        s.answers("YEAR 14", 3792, x -> x.worth(0, 14));
        s.answers("FIRM 2", 605, x -> x.worth(2, 2));
        Story.of(s).work(0, 10, 5).done(0).answers("WORKS DONE TODAY count", 1110,
                x -> x.worth(0, 1));
        Check.says("Promise 18", "-2,000,000,000,000: none such.");
        s.bounds("worth", NO_COINS, (x, a) -> x.worth(a[0], a[1]), new int[] {0, 0},
                new int[] {0, 2}, new int[] {0, 14});
    }

    private static void promise19() {
        Check.says("Promise 19", "A LINE (0 to 14).");
        long[] due = {21, 22, 23, 24, 100, 33, -54, 7, 3, -12, 200, 125, 300, 350, 12};
        for (int k = 0; k < 15; k++) {
            int line = k;
            allLines().answers("LINE " + k, due[k], x -> x.line(0, 3, 0, line));
        }
        Check.says("Promise 19", "-2,000,000,000,000: none such.");
        allLines().then(x -> x.firm(1)).then(x -> x.firm(1)).bounds("line", NO_COINS,
                (x, a) -> x.line(a[0], a[1], a[2], a[3]), new int[] {0, 3, 0, 0},
                new int[] {0, 2}, new int[] {0, 14}, new int[] {0, 1499}, new int[] {0, 14});
    }

    private static void promise20() {
        Check.says("Promise 20", "REVENUE.");
        allLines().answers("as KNOWN by 0", 1154, x -> x.revenue(0, 3, 0));
        allLines().day(7).log(0, 3, 1).answers("as KNOWN by 6", 1154, x -> x.revenue(0, 3, 6));
        allLines().day(7).log(0, 3, 1).answers("as KNOWN by 7", 1155, x -> x.revenue(0, 3, 7));
        Check.says("Promise 20", "-2,000,000,000,000: none such.");
        allLines().then(x -> x.firm(1)).then(x -> x.firm(1)).bounds("revenue", NO_COINS,
                (x, a) -> x.revenue(a[0], a[1], a[2]), new int[] {0, 3, 0}, new int[] {0, 2},
                new int[] {0, 14}, new int[] {0, 1499});
    }

    private static void promise21() {
        Check.says("Promise 21", "BILLS (what 0), what is carried on (1).");
        Story s = revenues(by("tilt 10;", 0), 5, 100, 150);
        s.answers("BILLS", 110, x -> x.bills(0, 6, 0, 0));
        s.answers("what is carried on", 40, x -> x.bills(0, 6, 0, 1));
        s.answers("nothing is carried from the first YEAR", 0, x -> x.bills(0, 5, 0, 1));
        s.answers("nor from the last", 0, x -> x.bills(0, 9, 0, 1));
        Check.says("Promise 21", "-2,000,000,000,000: none such.");
        s.then(x -> x.firm(1)).then(x -> x.firm(1)).bounds("bills", NO_COINS,
                (x, a) -> x.bills(a[0], a[1], a[2], a[3]), new int[] {0, 6, 0, 0},
                new int[] {0, 2}, new int[] {0, 14}, new int[] {0, 1499}, new int[] {0, 1});
    }

    private static void promise22() {
        Check.says("Promise 22", "What a HOME of a kind pays (0 to 2), what is left of the BILLS"
                + " behind all homes (3).");
        Story s = by("", 0).work(0, 1000, 3).fact(0, 3, 11, 3).fact(0, 3, 12, 2).fact(0, 3, 13, 4);
        // 32 parts: 62.5, 93.75, 156.25.
        long[] due = {62, 93, 156, 1000 - 3 * 62 - 2 * 93 - 4 * 156};
        for (int what = 0; what < 4; what++) {
            int k = what;
            s.answers("what " + k, due[k], x -> x.home(0, 3, 0, k));
        }
        by("", 0).work(0, 1000, 3).answers("all is left without homes", 1000,
                x -> x.home(0, 3, 0, 3));
        by("", 0).work(0, 64, 3).fact(0, 3, 13, 4).answers("nothing is left", 0,
                x -> x.home(0, 3, 0, 3));
        Check.says("Promise 22", "-2,000,000,000,000: none such.");
        s.then(x -> x.firm(1)).then(x -> x.firm(1)).bounds("home", NO_COINS,
                (x, a) -> x.home(a[0], a[1], a[2], a[3]), new int[] {0, 3, 0, 0},
                new int[] {0, 2}, new int[] {0, 14}, new int[] {0, 1499}, new int[] {0, 3});
    }

    /** LINES as they are, told. */
    private static Story toldAll() {
        long[] due = {21, 22, 23, 24, 100, 33, -54, 7, 3, -12, 200, 125, 300, 350, 12};
        Story s = allLines();
        for (int k = 0; k < 15; k++) {
            int line = k;
            s.then(x -> x.tell(line, (int) due[line]) ? 1 : 0);
        }
        return s;
    }

    private static void toldLines() {
        Check.says("Terms 4", "TOLD LINES: numbers of a review beside; CHECKED against a FIRM's"
                + " YEAR: the first LINE that is another one.");
        Story s = toldAll();
        s.answers("none is another one", NONE, x -> x.check(0, 3, 0));
        long[] due = {21, 22, 23, 24, 100, 33, -54, 7, 3, -12, 200, 125, 300, 350, 12};
        for (int k = 0; k < 15; k++) {
            int line = k;
            for (long v : new long[] {due[k] - 1, due[k] + 1, 0, MIN, MAX}) {
                Story.of(s).then(x -> x.tell(line, (int) v) ? 1 : 0).answers("LINE " + k, k,
                        x -> x.check(0, 3, 0));
            }
            Story.of(s).then(x -> x.tell(line, 1000) ? 1 : 0).then(x -> x.tell(14, 1000) ? 1 : 0)
                    .answers("the first of two", k, x -> x.check(0, 3, 0));
        }
        s.answers("another YEAR", 0, x -> x.check(0, 2, 0));
    }

    private static void promise31() {
        Check.says("Promise 31", "CHECKED.");
        Story s = toldAll().then(x -> x.firm(1)).then(x -> x.firm(1)).day(9).log(0, 3, 1);
        s.answers("by 8", NONE, x -> x.check(0, 3, 8));
        s.answers("by 9", 14, x -> x.check(0, 3, 9));
        Check.says("Promise 31", "NONE: none is another one;");
        s.answers("as told", NONE, x -> x.check(0, 3, 0));
        Story.ofFirms(0).answers("0 at first", NONE, x -> x.check(0, 14, 1499));
        Check.says("Promise 31", "-2 none such.");
        s.bounds("check", -2, (x, a) -> x.check(a[0], a[1], a[2]), new int[] {0, 3, 0},
                new int[] {0, 2}, new int[] {0, 14}, new int[] {0, 1499});
    }

    private static void promise33() {
        Check.says("Promise 33", "Of what a HOME of a kind pays (0 to 2) the part of a LINE: the"
                + " LINE times the kind's parts by all homes', cut (0 without homes).");
        Story s = allLines();
        long[] due = {21, 22, 23, 24, 100, 33, -54, 7, 3, -12, 200, 125, 300, 350, 12};
        int[] parts = {2, 3, 5};
        Story homes = Story.of(s).fact(0, 3, 11, 1).fact(0, 3, 12, 3);
        for (int k = 0; k < 15; k++) {
            int line = k;
            for (int kind = 0; kind < 3; kind++) {
                int of = kind;
                s.answers("without homes", 0, x -> x.who(0, 3, 0, of, line));
                homes.answers("LINE " + k + " of kind " + of, due[k] * parts[of] / 11,
                        x -> x.who(0, 3, 0, of, line));
            }
        }
        Story.of(s).fact(0, 3, 11, 0).answers("0 homes", 0, x -> x.who(0, 3, 0, 0, 4));
        Story.of(s).fact(0, 2, 11, 1).answers("of another YEAR", 0, x -> x.who(0, 3, 0, 0, 4));
        Story days = Story.of(s).day(9).fact(0, 3, 11, 5);
        days.answers("homes as KNOWN by 8", 0, x -> x.who(0, 3, 8, 0, 4));
        days.answers("homes as KNOWN by 9", 20, x -> x.who(0, 3, 9, 0, 4));
        Story.of(days).day(10).log(0, 3, 8).answers("LINE as KNOWN by 10", 4,
                x -> x.who(0, 3, 10, 0, 14));
        Story tilted = by("tilt 0;", 0).work(0, 90, 0).work(0, 40, 1).fact(0, 1, 11, 10);
        tilted.answers("the LINE, whatever is carried", 4, x -> x.who(0, 1, 0, 0, 5));
        // 535,199,497 times 5 is more than an int holds.
        richest("").fact(0, 14, 13, 1).answers("the most", 535199497, x -> x.who(0, 14, 0, 2, 4));
        Check.says("Promise 33", "-2,000,000,000,000: none such.");
        homes.then(x -> x.firm(1)).then(x -> x.firm(1)).bounds("who", NO_COINS,
                (x, a) -> x.who(a[0], a[1], a[2], a[3], a[4]), new int[] {0, 3, 0, 0, 0},
                new int[] {0, 2}, new int[] {0, 14}, new int[] {0, 1499}, new int[] {0, 2},
                new int[] {0, 14});
    }
}
