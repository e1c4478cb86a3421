/** Promises 18 to 22, 30, 31 and 33: WORTH, LINES, REVENUE, BILLS, HOMES, and who pays them. */
final class LinesTest {
    private static final long NO = -2_000_000_000_000L;

    private LinesTest() {
    }

    public static void main(String[] args) {
        promise18Worth();
        promise18BelowZero();
        promise18NoneSuch();
        promise19Return();
        promise19Works();
        promise19Back();
        promise19BackAsAYearBegins();
        promise19BackInAll();
        promise19EarnedMore();
        promise19EarnedLess();
        promise19EarnedLargest();
        promise19Shared();
        promise19SharedByDay();
        promise19Logged();
        promise19Year0();
        promise19NoneSuch();
        promise20Revenue();
        promise21Bills();
        promise21TheLastHasAll();
        promise21NoTilt();
        promise21BelowZero();
        promise21NoneSuch();
        promise22Home();
        promise22NoneSuch();
        promise30Tell();
        promise31Check();
        promise33Who();
        Check.end();
    }

    private static WaterReview firm(int worth, String rules) {
        WaterReview x = new WaterReview();
        x.firm(worth);
        Check.due("rules of " + rules, Check.rules(x, 0, rules), 0);
        return x;
    }

    private static void lines(WaterReview x, int year, int day, long... due) {
        for (int k = 0; k < due.length; k++) {
            Check.due("line " + k + " of year " + year, x.line(0, year, day, k), due[k]);
        }
    }

    private static void promise18Worth() {
        WaterReview x = firm(1001, "index 103 unless year=2;wear 7 unless year=3;");
        x.firm(999999);
        x.work(0, 500, 1);
        x.work(0, 60, 9);
        x.work(1, 9999, 1);
        Check.due("year 0", x.worth(0, 0), 1001);
        Check.due("1031 less 70", x.worth(0, 1), 961);
        x.day(99);
        x.done(1);
        Check.due("1031 and 60 less 70", x.worth(0, 1), 1021);
        x.day(100);
        x.done(0);
        Check.due("DONE in year 1 is nothing to year 1", x.worth(0, 1), 1021);
        Check.due("1051 and 500 less 71", x.worth(0, 2), 1480);
        x.done(2);
        Check.due("a WORK of another firm", x.worth(0, 2), 1480);
        Check.due("year 2 has INDEX 100: 1480 less 103", x.worth(0, 3), 1377);
        Check.due("year 3 has WEAR 0: 1418", x.worth(0, 4), 1418);
        Check.due("1460 less 99", x.worth(0, 5), 1361);
        WaterReview y = new WaterReview();
        y.firm(5);
        for (int year = 0; year < 15; year++) {
            Check.due("without RULES", y.worth(0, year), 5);
        }
        Check.rules(y, 1, "index 150;");
        Check.due("REVIEW 1's RULES in year 4", y.worth(0, 5), 5);
        Check.due("REVIEW 1's RULES in year 5", y.worth(0, 6), 7);
        Check.due("year 14", y.worth(0, 14), 163);
        WaterReview z = firm(999999, "index 150;");
        Check.due("the largest", z.worth(0, 14), 291928780);
    }

    private static void promise18BelowZero() {
        WaterReview x = firm(999, "index 50;wear 100 unless year>0;return 333;");
        Check.due("499 less 999", x.worth(0, 1), -500);
        Check.due("half of it", x.worth(0, 2), -250);
        Check.due("of -125, cut", x.worth(0, 4), -62);
        Check.due("RETURN of -62 is -20.6", x.line(0, 4, 0, 4), -20);
    }

    private static void promise18NoneSuch() {
        WaterReview x = firm(7, "");
        Check.due("firm 1", x.worth(1, 0), NO);
        Check.due("firm -1", x.worth(-1, 0), NO);
        Check.due("year -1", x.worth(0, -1), NO);
        Check.due("year 15", x.worth(0, 15), NO);
        Check.due("year 14", x.worth(0, 14), 7);
    }

    private static void promise19Return() {
        WaterReview x = firm(12345, "return 37 unless year=1;return 500 unless year<2;");
        Check.due("12345 times 37 by 1000", x.line(0, 0, 0, 4), 456);
        Check.due("none in year 1", x.line(0, 1, 0, 4), 0);
        Check.due("500 in year 2", x.line(0, 2, 0, 4), 6172);
        Check.due("RULES of REVIEW 0 hold on", x.line(0, 14, 0, 4), 6172);
    }

    private static void promise19Works() {
        WaterReview x = firm(0, "");
        x.firm(0);
        x.work(0, 100, 3);
        x.work(1, 1000, 3);
        x.work(0, 20, 3);
        x.work(0, 7, 4);
        Check.due("those of year 3", x.line(0, 3, 0, 5), 120);
        Check.due("that of year 4", x.line(0, 4, 0, 5), 7);
        Check.due("none of year 5", x.line(0, 5, 0, 5), 0);
        x.done(0);
        Check.due("DONE ones too", x.line(0, 3, 0, 5), 120);
    }

    private static void promise19Back() {
        WaterReview x = firm(0, "back 33 unless year=4;back 50 unless year<5;");
        x.firm(0);
        x.work(0, 100, 1);
        x.work(1, 9000, 1);
        Check.due("not in the year it is due", x.line(0, 1, 0, 6), 0);
        Check.due("33 in year 2", x.line(0, 2, 0, 6), -33);
        Check.due("33 in year 3", x.line(0, 3, 0, 6), -33);
        Check.due("no BACK in year 4", x.line(0, 4, 0, 6), 0);
        Check.due("34 are left in year 5", x.line(0, 5, 0, 6), -34);
        Check.due("nothing is left in year 6", x.line(0, 6, 0, 6), 0);
        x.work(0, 7, 2);
        Check.due("33 hundredths of 7, cut", x.line(0, 3, 0, 6), -35);
        Check.due("50 hundredths of 7, cut", x.line(0, 5, 0, 6), -37);
        Check.due("2 of 7 are left", x.line(0, 6, 0, 6), -2);
        x.day(299);
        x.done(0);
        Check.due("DONE the day ahead of year 3", x.line(0, 3, 299, 6), -2);
        Check.due("late in year 2", x.line(0, 2, 299, 6), -33);
        Check.due("not in year 5", x.line(0, 5, 299, 6), -3);
        x.day(300);
        x.done(2);
        Check.due("DONE on the day on which year 3 begins", x.line(0, 3, 300, 6), -2);
        Check.due("DONE ahead of year 5", x.line(0, 5, 300, 6), 0);
        Check.due("whatever the day asked by", x.line(0, 5, 0, 6), 0);
    }

    /** A work DONE in a year is late as that begins; its coins come to the next year's worth. */
    private static void promise19BackAsAYearBegins() {
        int[] days = {1, 99, 100, 101, 199, 200};
        int[] backOfYear1 = {0, 0, -50, -50, -50, -50};
        int[] backOfYear2 = {0, 0, 0, 0, 0, -30};
        int[] worthOfYear1 = {80, 80, 0, 0, 0, 0};
        int[] worthOfYear2 = {80, 80, 80, 80, 80, 0};
        for (int i = 0; i < days.length; i++) {
            WaterReview x = firm(0, "back 63;");
            x.work(0, 80, 0);
            x.day(days[i]);
            Check.due("not DONE yet: year 1", x.line(0, 1, 0, 6), -50);
            Check.due("not DONE yet: year 2", x.line(0, 2, 0, 6), -30);
            x.done(0);
            Check.due("BACK of year 1, DONE on " + days[i], x.line(0, 1, 0, 6), backOfYear1[i]);
            Check.due("BACK of year 2, DONE on " + days[i], x.line(0, 2, 0, 6), backOfYear2[i]);
            Check.due("WORTH of year 1, DONE on " + days[i], x.worth(0, 1), worthOfYear1[i]);
            Check.due("WORTH of year 2, DONE on " + days[i], x.worth(0, 2), worthOfYear2[i]);
        }
    }

    private static void promise19BackInAll() {
        WaterReview x = firm(0, "back 100;");
        x.work(0, 99999, 0);
        Check.due("all at once", x.line(0, 1, 0, 6), -99999);
        Check.due("no more", x.line(0, 2, 0, 6), 0);
        x.done(0);
        Check.due("DONE on its due year", x.line(0, 1, 0, 6), 0);
        WaterReview y = firm(0, "");
        y.work(0, 500, 0);
        Check.due("without back", y.line(0, 1, 0, 6), 0);
    }

    private static WaterReview earned(String target) {
        return firm(0, "target 1 " + target + ";");
    }

    private static void earns(WaterReview x, int output, long due) {
        x.fact(0, 3, 15, output);
        Check.due("EARNED by " + output, x.line(0, 4, 0, 8), due);
    }

    private static void promise19EarnedMore() {
        WaterReview x = earned("more 40 step 3 coin 10 dead 2 cap 25");
        Check.due("without OUTPUT", x.line(0, 4, 0, 8), 0);
        earns(x, 40, 0);
        earns(x, 42, 0);
        earns(x, 44, 0);
        earns(x, 45, 10);
        earns(x, 47, 10);
        earns(x, 48, 20);
        earns(x, 51, 25);
        earns(x, 9999, 25);
        earns(x, 38, 0);
        earns(x, 36, 0);
        earns(x, 35, -10);
        earns(x, 29, -25);
        earns(x, 0, -25);
        Check.due("not in the year itself", x.line(0, 3, 0, 8), 0);
        Check.due("no longer", x.line(0, 5, 0, 8), 0);
        Check.due("output 0 has no target", x.line(0, 4, 0, 7), 0);
        x.fact(0, 3, 14, 9999);
        x.fact(0, 3, 16, 9999);
        Check.due("output 0 is known", x.line(0, 4, 0, 7), 0);
        Check.due("output 2 is known", x.line(0, 4, 0, 9), 0);
        Check.due("output 1 as it was", x.line(0, 4, 0, 8), -25);
    }

    private static void promise19EarnedLess() {
        WaterReview x = earned("less 40 step 1 coin 7 dead 0 cap 99999");
        earns(x, 40, 0);
        earns(x, 39, 7);
        earns(x, 0, 280);
        earns(x, 41, -7);
        earns(x, 9999, -69713);
        x.day(450);
        x.fact(0, 3, 15, 30);
        Check.due("as KNOWN by 449", x.line(0, 4, 449, 8), -69713);
        Check.due("as KNOWN by 450", x.line(0, 4, 450, 8), 70);
    }

    private static void promise19EarnedLargest() {
        WaterReview x = firm(0, "target 2 less 99999 step 1 coin 99999 dead 0 cap 99999;"
                + "target 0 more 99999 step 1 coin 99999 dead 0 cap 99999 unless year=3;");
        x.fact(0, 2, 16, 0);
        x.fact(0, 2, 14, 0);
        x.fact(0, 3, 14, 0);
        Check.due("the most", x.line(0, 3, 0, 9), 99999);
        Check.due("the least", x.line(0, 3, 0, 7), -99999);
        Check.due("by the target of the YEAR ahead", x.line(0, 4, 0, 7), 0);
    }

    private static void shares(WaterReview x, int cost, long due) {
        x.fact(0, 3, 5, cost);
        Check.due("SHARED of " + cost, x.line(0, 4, 0, 12), due);
    }

    private static void promise19Shared() {
        WaterReview x = firm(0, "share power 33 77;allow power plan 100;allow run plan 100;");
        x.fact(0, 3, 9, 1000);
        Check.due("without COST", x.line(0, 4, 0, 12), 0);
        shares(x, 1000, 0);
        shares(x, 1100, 67);
        shares(x, 1010, 7);
        shares(x, 1002, 2);
        shares(x, 1001, 1);
        shares(x, 900, -23);
        shares(x, 990, -3);
        shares(x, 999, -1);
        shares(x, 0, -230);
        Check.due("in the year itself nothing", x.line(0, 3, 0, 12), 0);
        Check.due("a year later nothing", x.line(0, 5, 0, 12), 0);
        x.fact(0, 3, 3, 70);
        x.fact(0, 3, 7, 50);
        Check.due("without share all", x.line(0, 4, 0, 10), 20);
        x.fact(0, 3, 7, 90);
        Check.due("without share all, below", x.line(0, 4, 0, 10), -20);
        x.fact(0, 3, 6, 55);
        Check.due("without allow all", x.line(0, 4, 0, 13), 55);
        WaterReview z = firm(0, "share run 100 0;");
        z.fact(0, 3, 3, 1);
        Check.due("1 is borne", z.line(0, 4, 0, 10), 0);
        z.bench(0, 0, 3, 2);
        Check.due("1 below", z.line(0, 4, 0, 10), -1);
        WaterReview y = firm(0, "share run 100 0 unless year=5;share run 0 100 unless year<5;");
        y.fact(0, 4, 3, 50);
        y.fact(0, 5, 3, 50);
        Check.due("by share of the YEAR ahead", y.line(0, 5, 0, 10), 0);
        Check.due("by share of year 5", y.line(0, 6, 0, 10), 50);
    }

    private static void promise19SharedByDay() {
        WaterReview x = firm(0, "share run 50 50;allow run plan 100;");
        x.fact(0, 5, 7, 100);
        x.day(560);
        x.fact(0, 5, 3, 180);
        x.day(570);
        x.bench(0, 0, 5, 160);
        x.day(580);
        x.fact(0, 5, 3, 140);
        Check.due("by 559", x.line(0, 6, 559, 10), 0);
        Check.due("by 560", x.line(0, 6, 560, 10), 40);
        Check.due("by 570", x.line(0, 6, 570, 10), 10);
        Check.due("by 580", x.line(0, 6, 580, 10), -10);
        Check.due("ALLOWED by 569", x.line(0, 5, 569, 0), 100);
        Check.due("ALLOWED by 570", x.line(0, 5, 570, 0), 160);
    }

    private static void promise19Logged() {
        WaterReview x = firm(0, "log 11;allow run plan 100;allow other plan 100;");
        x.fact(0, 3, 7, 300);
        x.fact(0, 3, 10, 150);
        // 11 hundredths of 450 are 49.5.
        x.log(0, 3, 40);
        Check.due("40 are too few", x.line(0, 3, 0, 14), 0);
        x.day(10);
        x.log(0, 3, 8);
        Check.due("48 are too few", x.line(0, 3, 10, 14), 0);
        x.day(20);
        x.log(0, 3, 1);
        Check.due("49 are enough", x.line(0, 3, 20, 14), 49);
        Check.due("not by the day ahead", x.line(0, 3, 19, 14), 0);
        x.day(30);
        x.bench(0, 1, 3, 50);
        Check.due("ALLOWED more: too few", x.line(0, 3, 30, 14), 0);
        Check.due("another year", x.line(0, 4, 30, 14), 0);
        WaterReview y = firm(0, "allow run plan 100;log 100 unless year=1;");
        y.fact(0, 1, 7, 99999);
        y.fact(0, 2, 7, 99999);
        y.log(0, 1, 1);
        y.log(0, 2, 1);
        Check.due("without log", y.line(0, 1, 0, 14), 1);
        Check.due("with log 100", y.line(0, 2, 0, 14), 0);
        y.log(0, 2, 99998);
        Check.due("as much as ALLOWED", y.line(0, 2, 0, 14), 99999);
    }

    private static void promise19Year0() {
        WaterReview x = firm(1000, "return 100;allow run plan 100;share run 50 50;back 50;"
                + "target 0 more 0 step 1 coin 1 dead 0 cap 9;");
        x.fact(0, 0, 7, 20);
        x.fact(0, 0, 3, 40);
        x.fact(0, 0, 14, 5);
        x.work(0, 70, 0);
        lines(x, 0, 0, 20, 0, 0, 0, 100, 70, 0, 0, 0, 0, 0, 0, 0, 0, 0);
        lines(x, 1, 0, 0, 0, 0, 0, 100, 0, -35, 5, 0, 0, 10, 0, 0, 0, 0);
    }

    private static void promise19NoneSuch() {
        WaterReview x = firm(1000, "return 100;");
        Check.due("firm 1", x.line(1, 0, 0, 4), NO);
        Check.due("firm -1", x.line(-1, 0, 0, 4), NO);
        Check.due("year -1", x.line(0, -1, 0, 4), NO);
        Check.due("year 15", x.line(0, 15, 0, 4), NO);
        Check.due("day -1", x.line(0, 0, -1, 4), NO);
        Check.due("day 1500", x.line(0, 0, 1500, 4), NO);
        Check.due("line -1", x.line(0, 0, 0, -1), NO);
        Check.due("line 15", x.line(0, 0, 0, 15), NO);
        Check.due("line 14", x.line(0, 14, 1499, 14), 0);
    }

    private static void promise20Revenue() {
        WaterReview x = firm(1000, "return 100;allow run plan 100;allow pipes plan 200;"
                + "allow power plan 100;allow other plan 50;back 10;"
                + "target 0 more 0 step 1 coin 1 dead 0 cap 9;"
                + "target 1 more 9 step 1 coin 2 dead 0 cap 99;"
                + "target 2 less 5 step 1 coin 4 dead 0 cap 99;share run 50 0;");
        for (int head = 0; head < 4; head++) {
            x.fact(0, 2, 7 + head, 1000 + head);
            x.fact(0, 1, 3 + head, 100 * head + 60);
        }
        for (int output = 0; output < 3; output++) {
            x.fact(0, 1, 14 + output, 7);
        }
        x.work(0, 500, 1);
        x.work(0, 33, 2);
        x.log(0, 2, 12);
        lines(x, 2, 0, 1000, 2002, 1002, 501, 100, 33, -50, 7, -4, -8, 30, 160, 260, 360, 12);
        Check.due("all LINES", x.revenue(0, 2, 0), 5405);
        x.day(5);
        x.fact(0, 1, 15, 10);
        Check.due("as KNOWN by 4", x.revenue(0, 2, 4), 5405);
        Check.due("as KNOWN by 5", x.revenue(0, 2, 5), 5411);
        Check.due("firm 1", x.revenue(1, 2, 5), NO);
        Check.due("firm -1", x.revenue(-1, 2, 5), NO);
        Check.due("year 15", x.revenue(0, 15, 5), NO);
        Check.due("year -1", x.revenue(0, -1, 5), NO);
        Check.due("day 1500", x.revenue(0, 2, 1500), NO);
        Check.due("day -1", x.revenue(0, 2, -1), NO);
    }

    /** WORKS make a REVENUE of each year. */
    private static void revenues(WaterReview x, int first, int... coins) {
        for (int i = 0; i < coins.length; i++) {
            if (coins[i] > 0) {
                x.work(0, coins[i], first + i);
            }
        }
    }

    private static void bill(WaterReview x, int year, long bills, long carried) {
        Check.due("BILLS of year " + year, x.bills(0, year, 0, 0), bills);
        Check.due("carried on behind year " + year, x.bills(0, year, 0, 1), carried);
    }

    private static void promise21Bills() {
        WaterReview x = firm(0, "tilt 15;");
        revenues(x, 5, 1003, 2000, 500, 100, 4000, 77, 88, 66);
        bill(x, 5, 1003, 0);
        // 115 hundredths of 1003 are 1153.45, 85 of them 852.55.
        bill(x, 6, 1153, 847);
        // 500 and 847 are 1347; 1325.95 at most.
        bill(x, 7, 1325, 22);
        // 100 and 22; 1126.25 at least.
        bill(x, 8, 1126, -1004);
        bill(x, 9, 2996, 0);
        bill(x, 10, 77, 0);
        bill(x, 11, 88, 0);
        // 74.8 at least.
        bill(x, 12, 74, -8);
        bill(x, 13, 62, -70);
        bill(x, 14, -70, 0);
    }

    private static void promise21TheLastHasAll() {
        WaterReview x = firm(0, "tilt 0;");
        revenues(x, 0, 100, 50, 60, 130, 9);
        bill(x, 0, 100, 0);
        bill(x, 1, 100, -50);
        bill(x, 2, 100, -90);
        bill(x, 3, 100, -60);
        bill(x, 4, -51, 0);
        bill(x, 5, 0, 0);
        WaterReview y = firm(0, "tilt 100;");
        revenues(y, 0, 100, 900);
        bill(y, 1, 200, 700);
        bill(y, 2, 400, 300);
        bill(y, 3, 300, 0);
        bill(y, 4, 0, 0);
    }

    private static void promise21NoTilt() {
        WaterReview x = firm(0, "tilt 10 unless year=2;");
        revenues(x, 0, 100, 500, 1000, 1200, 5);
        bill(x, 1, 110, 390);
        bill(x, 2, 1390, 0);
        bill(x, 3, 1251, -51);
        bill(x, 4, -46, 0);
        WaterReview y = firm(0, "");
        revenues(y, 0, 100, 500, 0, 7);
        bill(y, 1, 500, 0);
        bill(y, 2, 0, 0);
        bill(y, 3, 7, 0);
        x.day(100);
        x.log(0, 2, 40);
        Check.due("as KNOWN by 99", x.bills(0, 2, 99, 0), 1390);
        Check.due("as KNOWN by 100", x.bills(0, 2, 100, 0), 1430);
        Check.due("carried to year 3 as KNOWN by 100", x.bills(0, 3, 100, 1), -87);
    }

    /** With BILLS below 0 ahead the least, which goes first, is above the most. */
    private static void promise21BelowZero() {
        WaterReview x = firm(0, "tilt 10;target 0 less 0 step 1 coin 100 dead 0 cap 99999;");
        x.fact(0, 4, 14, 10);
        bill(x, 5, -1000, 0);
        bill(x, 6, -900, 900);
        bill(x, 7, -810, 1710);
        bill(x, 8, -729, 2439);
        bill(x, 9, 2439, 0);
        x.fact(0, 5, 14, 90);
        bill(x, 6, -900, -8100);
    }

    private static void promise21NoneSuch() {
        WaterReview x = firm(0, "");
        Check.due("firm 1", x.bills(1, 0, 0, 0), NO);
        Check.due("firm -1", x.bills(-1, 0, 0, 0), NO);
        Check.due("year -1", x.bills(0, -1, 0, 0), NO);
        Check.due("year 15", x.bills(0, 15, 0, 0), NO);
        Check.due("day -1", x.bills(0, 0, -1, 0), NO);
        Check.due("day 1500", x.bills(0, 0, 1500, 0), NO);
        Check.due("what -1", x.bills(0, 0, 0, -1), NO);
        Check.due("what 2", x.bills(0, 0, 0, 2), NO);
    }

    private static void homes(WaterReview x, int year, int day, long... due) {
        for (int what = 0; what < 4; what++) {
            Check.due("home " + what, x.home(0, year, day, what), due[what]);
        }
    }

    private static void promise22Home() {
        WaterReview x = firm(0, "tilt 0;");
        revenues(x, 0, 1000, 77);
        homes(x, 1, 0, 0, 0, 0, 1000);
        x.fact(0, 1, 11, 10);
        homes(x, 1, 0, 100, 150, 250, 0);
        x.day(3);
        x.fact(0, 1, 12, 7);
        x.fact(0, 1, 13, 2);
        // 51 parts: 39.2, 58.8, 98.04.
        homes(x, 1, 3, 39, 58, 98, 1000 - 390 - 406 - 196);
        homes(x, 1, 2, 100, 150, 250, 0);
        homes(x, 0, 3, 0, 0, 0, 1000);
        x.fact(0, 1, 11, 0);
        x.fact(0, 1, 12, 0);
        x.fact(0, 1, 13, 0);
        homes(x, 1, 3, 0, 0, 0, 1000);
        // Year 4 has what was carried, -2923; 11 parts: -531.5, -797.2, -1328.6.
        x.fact(0, 4, 12, 3);
        x.fact(0, 4, 11, 1);
        homes(x, 4, 3, -531, -797, -1328, -2923 + 531 + 3 * 797);
        x.firm(0);
        x.fact(1, 0, 11, 7);
        x.work(1, 70, 0);
        Check.due("of firm 1", x.home(1, 0, 3, 0), 10);
        x.firm(9);
        Check.due("of firm 2", x.home(2, 0, 3, 3), 0);
    }

    private static void promise22NoneSuch() {
        WaterReview x = firm(0, "");
        Check.due("firm 1", x.home(1, 0, 0, 0), NO);
        Check.due("firm -1", x.home(-1, 0, 0, 0), NO);
        Check.due("year -1", x.home(0, -1, 0, 0), NO);
        Check.due("year 15", x.home(0, 15, 0, 0), NO);
        Check.due("day -1", x.home(0, 0, -1, 0), NO);
        Check.due("day 1500", x.home(0, 0, 1500, 0), NO);
        Check.due("what -1", x.home(0, 0, 0, -1), NO);
        Check.due("what 4", x.home(0, 0, 0, 4), NO);
        Check.due("without any", x.home(0, 14, 1499, 3), 0);
    }

    private static void promise30Tell() {
        WaterReview x = firm(0, "");
        Check.due("line -1", x.tell(-1, 5), false);
        Check.due("line 15", x.tell(15, 5), false);
        Check.due("0 at first", x.check(0, 0, 0), -1);
        Check.due("line 14", x.tell(14, Integer.MIN_VALUE), true);
        Check.due("is another one", x.check(0, 0, 0), 14);
        Check.due("line 0", x.tell(0, Integer.MAX_VALUE), true);
        Check.due("the first that is another one", x.check(0, 0, 0), 0);
        Check.due("line 0 again", x.tell(0, 0), true);
        Check.due("line 14 again", x.tell(14, 0), true);
        Check.due("none is another one", x.check(0, 0, 0), -1);
    }

    private static void promise31Check() {
        WaterReview x = firm(1000, "return 100;back 10;");
        x.work(0, 50, 1);
        x.work(0, 70, 2);
        x.day(9);
        x.log(0, 2, 3);
        Check.due("4 is another one", x.check(0, 2, 9), 4);
        x.tell(4, 100);
        Check.due("5 is another one", x.check(0, 2, 9), 5);
        x.tell(5, 70);
        Check.due("6 is another one", x.check(0, 2, 9), 6);
        x.tell(6, -5);
        Check.due("14 is another one", x.check(0, 2, 9), 14);
        Check.due("none as KNOWN by 8", x.check(0, 2, 8), -1);
        x.tell(14, 3);
        Check.due("none as KNOWN by 9", x.check(0, 2, 9), -1);
        Check.due("14 as KNOWN by 8", x.check(0, 2, 8), 14);
        Check.due("of another year", x.check(0, 1, 9), 5);
        for (int k = 0; k < 4; k++) {
            x.tell(k, 1);
            Check.due(k + " is another one", x.check(0, 2, 9), k);
            x.tell(k, 0);
        }
        Check.due("firm 1", x.check(1, 2, 9), -2);
        Check.due("firm -1", x.check(-1, 2, 9), -2);
        Check.due("year -1", x.check(0, -1, 9), -2);
        Check.due("year 15", x.check(0, 15, 9), -2);
        Check.due("day -1", x.check(0, 2, -1), -2);
        Check.due("day 1500", x.check(0, 2, 1500), -2);
    }

    private static void promise33Who() {
        WaterReview x = firm(1000, "return 100;back 30;");
        x.work(0, 333, 1);
        Check.due("without homes", x.who(0, 2, 0, 0, 4), 0);
        x.fact(0, 2, 11, 3);
        x.fact(0, 2, 13, 1);
        // 11 parts.
        Check.due("kind 0 of RETURN", x.who(0, 2, 0, 0, 4), 18);
        Check.due("kind 1 of RETURN", x.who(0, 2, 0, 1, 4), 27);
        Check.due("kind 2 of RETURN", x.who(0, 2, 0, 2, 4), 45);
        Check.due("kind 2 of BACK: -99 times 5 by 11", x.who(0, 2, 0, 2, 6), -45);
        Check.due("kind 1 of BACK: -297 by 11", x.who(0, 2, 0, 1, 6), -27);
        x.day(7);
        x.fact(0, 2, 11, 4);
        Check.due("kind 2 of BACK: -495 by 13, cut", x.who(0, 2, 7, 2, 6), -38);
        Check.due("as KNOWN by 6", x.who(0, 2, 6, 2, 6), -45);
        Check.due("line 14", x.who(0, 2, 7, 0, 14), 0);
        x.bench(0, 0, 2, 130);
        Check.due("line 0", x.who(0, 2, 7, 1, 0), 30);
        Check.due("line 15", x.who(0, 2, 7, 0, 15), NO);
        Check.due("line -1", x.who(0, 2, 7, 0, -1), NO);
        Check.due("kind 3", x.who(0, 2, 7, 3, 4), NO);
        Check.due("kind -1", x.who(0, 2, 7, -1, 4), NO);
        Check.due("firm 1", x.who(1, 2, 7, 0, 4), NO);
        Check.due("firm -1", x.who(-1, 2, 7, 0, 4), NO);
        Check.due("year 15", x.who(0, 15, 7, 0, 4), NO);
        Check.due("year -1", x.who(0, -1, 7, 0, 4), NO);
        Check.due("day 1500", x.who(0, 2, 1500, 0, 4), NO);
        Check.due("day -1", x.who(0, 2, -1, 0, 4), NO);
    }
}
