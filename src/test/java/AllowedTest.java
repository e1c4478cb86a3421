/** Promises 16, 17, 25 and 26: what is ALLOWED, by POINTS; SPAN and MOVES of "line". */
final class AllowedTest {
    private static final int NO = -2_000_000_000;

    private AllowedTest() {
    }

    public static void main(String[] args) {
        promise16NoneSuch();
        promise16Plan();
        promise16Mean();
        promise16Best();
        promise16Line();
        promise16LineWithoutSlope();
        promise16Held();
        promise16TheDriver();
        promise16KnownAsDecided();
        promise16Bench();
        promise16TheLargest();
        promise17Points();
        promise17NoneSuch();
        promise25Span();
        promise25NoneSuch();
        promise26Moves();
        promise26NoneSuch();
        Check.end();
    }

    private static WaterReview firms(int n) {
        WaterReview x = new WaterReview();
        for (int i = 0; i < n; i++) {
            x.firm(1000);
        }
        return x;
    }

    /** A POINT by driver 0 for head 0. */
    private static void point(WaterReview x, int firm, int year, int driver, int cost) {
        x.fact(firm, year, 0, driver);
        x.fact(firm, year, 3, cost);
    }

    private static void promise16NoneSuch() {
        WaterReview x = firms(1);
        Check.due("firm 1", x.allowed(1, 0, 0, 0), NO);
        Check.due("firm -1", x.allowed(-1, 0, 0, 0), NO);
        Check.due("head -1", x.allowed(0, -1, 0, 0), NO);
        Check.due("head 4", x.allowed(0, 4, 0, 0), NO);
        Check.due("year -1", x.allowed(0, 0, -1, 0), NO);
        Check.due("year 15", x.allowed(0, 0, 15, 0), NO);
        Check.due("day -1", x.allowed(0, 0, 0, -1), NO);
        Check.due("day 1500", x.allowed(0, 0, 0, 1500), NO);
        Check.due("without RULES", x.allowed(0, 0, 0, 0), 0);
        Check.due("a day to come", x.allowed(0, 3, 14, 1499), 0);
        Check.rules(x, 0, "share run 5 5;");
        Check.due("without allow", x.allowed(0, 0, 0, 0), 0);
    }

    private static void promise16Plan() {
        WaterReview x = firms(2);
        Check.rules(x, 0, "allow run plan 33;allow pipes plan 200;allow power plan 0;"
                + "allow other plan 100 unless year=2;");
        x.fact(0, 1, 7, 1001);
        x.fact(0, 1, 8, 1002);
        x.fact(0, 1, 9, 1003);
        x.fact(0, 1, 10, 1004);
        x.fact(0, 2, 10, 1005);
        Check.due("33 hundredths of 1001, cut", x.allowed(0, 0, 1, 0), 330);
        Check.due("twice 1002", x.allowed(0, 1, 1, 0), 2004);
        Check.due("nothing of 1003", x.allowed(0, 2, 1, 0), 0);
        Check.due("1004", x.allowed(0, 3, 1, 0), 1004);
        Check.due("no plan of the year", x.allowed(0, 0, 2, 0), 0);
        Check.due("no plan of the firm", x.allowed(1, 0, 1, 0), 0);
        Check.due("no rule in year 2", x.allowed(0, 3, 2, 0), 0);
    }

    private static void promise16Mean() {
        WaterReview x = firms(3);
        Check.rules(x, 1, "allow run mean 0 90;");
        point(x, 1, 0, 7, 100);
        point(x, 2, 4, 6, 250);
        x.fact(0, 3, 0, 5);
        // 350 times 5 by 13 is 134.6; 90 hundredths of 134 are 120.6.
        Check.due("mean", x.allowed(0, 0, 5, 0), 120);
        // 250 times 7 by 6 is 291.7.
        Check.due("of another firm: not its own POINTS", x.allowed(1, 0, 5, 0), 261);
        Check.due("REVIEW 2 has other years ahead", x.allowed(0, 0, 10, 0), 0);
        WaterReview y = firms(2);
        Check.rules(y, 1, "allow run mean 0 100;");
        point(y, 1, 0, 0, 100);
        y.fact(0, 3, 0, 5);
        Check.due("all DRIVERS 0", y.allowed(0, 0, 5, 0), 0);
    }

    private static void promise16Best() {
        WaterReview x = firms(4);
        Check.rules(x, 1, "allow run best 0 100;");
        x.fact(0, 0, 0, 10);
        Check.due("no POINTS", x.allowed(0, 0, 5, 0), 0);
        point(x, 1, 0, 0, 0);
        Check.due("no DRIVER above 0", x.allowed(0, 0, 5, 0), 0);
        point(x, 1, 1, 3, 100);
        Check.due("100 times 10 by 3", x.allowed(0, 0, 5, 0), 333);
        point(x, 2, 1, 6, 200);
        Check.due("as dear: the first one", x.allowed(0, 0, 5, 0), 333);
        point(x, 3, 2, 7, 232);
        Check.due("232 by 7 is less", x.allowed(0, 0, 5, 0), 331);
        point(x, 3, 3, 1, 34);
        Check.due("34 by 1 is more", x.allowed(0, 0, 5, 0), 331);
        point(x, 2, 3, 999, 33999);
        Check.due("33,999 by 999 is more", x.allowed(0, 0, 5, 0), 331);
        point(x, 2, 3, 5, 0);
        Check.due("COST 0", x.allowed(0, 0, 5, 0), 0);
    }

    private static void promise16Line() {
        WaterReview x = firms(4);
        Check.rules(x, 1, "allow run line 0 100;allow pipes line 2 150;");
        point(x, 1, 0, 1, 10);
        point(x, 2, 0, 2, 30);
        point(x, 3, 0, 4, 40);
        // n 3, x 7, y 80, xx 21, xy 230: D 14; rise 130.
        x.fact(0, 4, 0, 3);
        Check.due("(80 14 and 130 2) by 42", x.allowed(0, 0, 5, 0), 32);
        x.fact(0, 4, 0, 9);
        Check.due("(1120 and 130 20) by 42", x.allowed(0, 0, 5, 0), 88);
        x.fact(0, 4, 0, 0);
        Check.due("(1120 less 910) by 42", x.allowed(0, 0, 5, 0), 5);
        x.fact(1, 0, 3, 0);
        // y 70, xy 220: rise 170.
        Check.due("(980 less 1190) by 42: 0 at least", x.allowed(0, 0, 5, 0), 0);
        x.fact(0, 4, 0, 1);
        Check.due("(980 less 680) by 42", x.allowed(0, 0, 5, 0), 7);
        x.fact(1, 3, 2, 5);
        x.fact(1, 3, 4, 100);
        x.fact(2, 3, 2, 7);
        x.fact(2, 3, 4, 50);
        x.fact(0, 5, 2, 6);
        Check.due("falling, of other heads and drivers", x.allowed(0, 1, 5, 0), 112);
    }

    private static void promise16LineWithoutSlope() {
        WaterReview x = firms(3);
        Check.rules(x, 1, "allow run line 0 100;");
        x.fact(0, 4, 0, 7);
        Check.due("no POINTS", x.allowed(0, 0, 5, 0), 0);
        point(x, 1, 2, 4, 90);
        Check.due("one POINT: as mean", x.allowed(0, 0, 5, 0), 157);
        point(x, 2, 2, 4, 30);
        Check.due("all of one DRIVER: as mean", x.allowed(0, 0, 5, 0), 105);
        point(x, 1, 2, 0, 90);
        point(x, 2, 2, 0, 30);
        Check.due("all DRIVERS 0", x.allowed(0, 0, 5, 0), 0);
    }

    private static void promise16Held() {
        WaterReview x = firms(2);
        Check.rules(x, 1, "allow run best 0 50;allow pipes mean 1 150;allow power line 2 200;");
        point(x, 1, 0, 1, 99999);
        x.fact(0, 4, 0, 999);
        Check.due("best, held ahead of the hundredths", x.allowed(0, 0, 5, 0), 499999);
        x.fact(1, 0, 1, 1);
        x.fact(1, 0, 4, 2000);
        x.fact(0, 4, 1, 500);
        Check.due("mean, held", x.allowed(0, 1, 5, 0), 1499998);
        x.fact(0, 4, 1, 499);
        Check.due("mean, not held", x.allowed(0, 1, 5, 0), 1497000);
        x.fact(1, 0, 2, 0);
        x.fact(1, 0, 5, 0);
        x.fact(1, 1, 2, 1);
        x.fact(1, 1, 5, 90000);
        x.fact(0, 4, 2, 900);
        Check.due("line, held", x.allowed(0, 2, 5, 0), 1999998);
        x.fact(0, 4, 2, 11);
        Check.due("line, not held", x.allowed(0, 2, 5, 0), 1980000);
    }

    private static void promise16TheDriver() {
        WaterReview x = firms(2);
        Check.rules(x, 1, "allow run mean 0 100;");
        point(x, 1, 0, 1, 10);
        Check.due("no DRIVER", x.allowed(0, 0, 6, 0), 0);
        x.fact(0, 0, 0, 3);
        Check.due("of year 0", x.allowed(0, 0, 6, 0), 30);
        x.fact(0, 7, 0, 5);
        Check.due("of a year to come it isn't", x.allowed(0, 0, 6, 0), 30);
        Check.due("of the year itself", x.allowed(0, 0, 7, 0), 50);
        Check.due("of the latest year up to that one", x.allowed(0, 0, 9, 0), 50);
        x.fact(0, 6, 0, 0);
        Check.due("0 is one too", x.allowed(0, 0, 6, 0), 0);
        x.fact(0, 6, 1, 9);
        Check.due("another DRIVER isn't asked", x.allowed(0, 0, 6, 0), 0);
    }

    private static void promise16KnownAsDecided() {
        WaterReview x = firms(2);
        Check.rules(x, 0, "allow run mean 0 100;allow pipes plan 100;");
        x.fact(1, 3, 0, 1);
        x.fact(0, 3, 0, 1);
        x.day(500);
        x.fact(1, 3, 3, 40);
        x.fact(0, 5, 8, 600);
        Check.due("told on the day it is decided", x.allowed(0, 0, 5, 0), 40);
        Check.due("the plan, too", x.allowed(0, 1, 5, 0), 600);
        x.day(501);
        x.fact(1, 3, 3, 80);
        x.fact(0, 3, 0, 2);
        x.fact(0, 5, 8, 700);
        Check.due("told later", x.allowed(0, 0, 5, 1499), 40);
        Check.due("a plan told later", x.allowed(0, 1, 5, 1499), 600);
        x.fact(1, 5, 3, 9);
        x.fact(1, 5, 0, 1);
        x.day(1000);
        Check.due("REVIEW 2 knows more", x.allowed(0, 0, 10, 0), 18);
    }

    private static void promise16Bench() {
        WaterReview x = firms(1);
        Check.rules(x, 0, "allow run plan 100;");
        x.fact(0, 1, 7, 50);
        x.day(20);
        x.bench(0, 0, 1, 0);
        Check.due("by the day ahead", x.allowed(0, 0, 1, 19), 50);
        Check.due("a word of 0", x.allowed(0, 0, 1, 20), 0);
        x.day(30);
        x.bench(0, 0, 1, 90);
        Check.due("the first word", x.allowed(0, 0, 1, 29), 0);
        Check.due("the second word", x.allowed(0, 0, 1, 30), 90);
        Check.due("another year", x.allowed(0, 0, 2, 30), 0);
    }

    private static void promise16TheLargest() {
        WaterReview x = firms(11);
        Check.rules(x, 1, "allow run line 0 200;");
        for (int firm = 1; firm < 11; firm++) {
            for (int year = 0; year < 5; year++) {
                point(x, firm, year, firm < 6 ? 998 : 999, firm < 6 ? 0 : 99999);
            }
        }
        x.fact(0, 0, 0, 999);
        Check.due("fifty of the largest POINTS", x.allowed(0, 0, 5, 0), 199998);
        x.fact(0, 0, 0, 0);
        Check.due("far below", x.allowed(0, 0, 5, 0), 0);
        Check.due("their DRIVERS", x.points(0, 0, 1, 0, 1), 49925);
        Check.due("their COSTS", x.points(0, 0, 1, 0, 2), 2499975);
    }

    private static void promise17Points() {
        WaterReview x = firms(3);
        point(x, 1, 0, 5, 100);
        point(x, 1, 4, 6, 200);
        point(x, 2, 5, 7, 300);
        point(x, 0, 2, 8, 400);
        x.fact(2, 3, 0, 50);
        x.fact(2, 4, 3, 60);
        x.fact(1, 2, 1, 9);
        x.fact(1, 2, 6, 90);
        long[][] due = {{0, 0, 0}, {2, 11, 300}, {1, 7, 300}};
        for (int review = 0; review < 3; review++) {
            for (int what = 0; what < 3; what++) {
                Check.due("points of REVIEW " + review + ", what " + what,
                        x.points(0, 0, review, 0, what), due[review][what]);
            }
        }
        Check.due("of firm 1", x.points(1, 0, 1, 0, 2), 400);
        Check.due("of firm 2", x.points(2, 0, 1, 0, 0), 3);
        Check.due("of head 3, driver 1", x.points(0, 3, 1, 1, 2), 90);
        Check.due("of head 3, driver 0", x.points(0, 3, 1, 0, 0), 0);
        x.day(501);
        point(x, 1, 1, 4, 1);
        x.fact(1, 0, 0, 500);
        Check.due("as KNOWN as the REVIEW was decided", x.points(0, 0, 1, 0, 1), 11);
        x.fact(1, 5, 0, 0);
        x.fact(1, 5, 3, 0);
        Check.due("zeros are POINTS too", x.points(0, 0, 2, 0, 0), 2);
    }

    private static void promise17NoneSuch() {
        WaterReview x = firms(2);
        point(x, 1, 0, 5, 100);
        Check.due("none", x.points(1, 0, 1, 0, 0), 0);
        Check.due("firm 2", x.points(2, 0, 1, 0, 0), -1);
        Check.due("firm -1", x.points(-1, 0, 1, 0, 0), -1);
        x.fact(1, 0, 7, 100);
        x.fact(1, 0, 2, 100);
        Check.due("driver 2", x.points(0, 0, 1, 2, 1), 100);
        Check.due("head 4", x.points(0, 4, 1, 0, 0), -1);
        Check.due("head -1", x.points(0, -1, 1, 0, 0), -1);
        Check.due("review 3", x.points(0, 0, 3, 0, 0), -1);
        Check.due("review -1", x.points(0, 0, -1, 0, 0), -1);
        Check.due("driver 3", x.points(0, 0, 1, 3, 0), -1);
        Check.due("driver -1", x.points(0, 0, 1, -1, 0), -1);
        Check.due("what 3", x.points(0, 0, 1, 0, 3), -1);
        Check.due("what -1", x.points(0, 0, 1, 0, -1), -1);
    }

    private static void promise25Span() {
        WaterReview x = firms(4);
        point(x, 1, 0, 1, 10);
        point(x, 2, 0, 2, 30);
        point(x, 3, 0, 4, 40);
        // All: (80 14 and 130 (3 X less 7)) by 42. Without 1: 30, 40 at 2, 4. Without 2: 10, 40 at
        // 1, 4. Without 3: 10, 30 at 1, 2.
        Check.due("at 3", x.span(0, 0, 1, 0, 3, 0), 32);
        Check.due("least at 3", x.span(0, 0, 1, 0, 3, 1), 30);
        Check.due("most at 3", x.span(0, 0, 1, 0, 3, 2), 50);
        Check.due("at 0", x.span(0, 0, 1, 0, 0, 0), 5);
        Check.due("least at 0", x.span(0, 0, 1, 0, 0, 1), 0);
        Check.due("most at 0", x.span(0, 0, 1, 0, 0, 2), 20);
        Check.due("at 999", x.span(0, 0, 1, 0, 999, 0), 9281);
        Check.due("least at 999", x.span(0, 0, 1, 0, 999, 1), 5015);
        Check.due("most at 999", x.span(0, 0, 1, 0, 999, 2), 19970);
        point(x, 0, 0, 900, 90000);
        Check.due("its own doesn't count", x.span(0, 0, 1, 0, 3, 2), 50);
        WaterReview y = firms(3);
        point(y, 1, 0, 2, 10);
        Check.due("by one firm", y.span(0, 0, 1, 0, 5, 0), 25);
        Check.due("without that one", y.span(0, 0, 1, 0, 5, 1), 0);
        Check.due("without that one, the most", y.span(0, 0, 1, 0, 5, 2), 0);
        point(y, 1, 1, 3, 20);
        point(y, 2, 1, 1, 99999);
        Check.due("held at 999,999 with one left out", y.span(0, 0, 1, 0, 999, 2), 999999);
        Check.due("the other one left out", y.span(0, 0, 1, 0, 999, 1), 9980);
    }

    private static void promise25NoneSuch() {
        WaterReview x = firms(2);
        Check.due("no POINTS", x.span(0, 0, 1, 0, 5, 0), -1);
        point(x, 1, 0, 2, 10);
        for (int what = 0; what < 3; what++) {
            Check.due("what " + what, x.span(0, 0, 1, 0, 0, what), 0);
            Check.due("its own alone " + what, x.span(1, 0, 1, 0, 5, what), -1);
        }
        x.fact(1, 0, 7, 100);
        x.fact(1, 0, 2, 100);
        Check.due("driver 2", x.span(0, 0, 1, 2, 50, 0), 5);
        Check.due("x 999", x.span(0, 0, 1, 0, 999, 0), 4995);
        Check.due("x 1,000", x.span(0, 0, 1, 0, 1000, 0), -1);
        Check.due("x -1", x.span(0, 0, 1, 0, -1, 0), -1);
        Check.due("what 3", x.span(0, 0, 1, 0, 5, 3), -1);
        Check.due("what -1", x.span(0, 0, 1, 0, 5, -1), -1);
        Check.due("firm 2", x.span(2, 0, 1, 0, 5, 0), -1);
        Check.due("firm -1", x.span(-1, 0, 1, 0, 5, 0), -1);
        Check.due("head 4", x.span(0, 4, 1, 0, 5, 0), -1);
        Check.due("head -1", x.span(0, -1, 1, 0, 5, 0), -1);
        Check.due("review 3", x.span(0, 0, 3, 0, 5, 0), -1);
        Check.due("review -1", x.span(0, 0, -1, 0, 5, 0), -1);
        Check.due("driver 3", x.span(0, 0, 1, 3, 5, 0), -1);
        Check.due("driver -1", x.span(0, 0, 1, -1, 5, 0), -1);
    }

    /** A year's DRIVERS 0 to 2 and COST of head 1. */
    private static void year(WaterReview x, int firm, int year, int a, int b, int c, int cost) {
        x.fact(firm, year, 0, a);
        x.fact(firm, year, 1, b);
        x.fact(firm, year, 2, c);
        x.fact(firm, year, 4, cost);
    }

    private static void promise26Moves() {
        WaterReview x = firms(3);
        year(x, 1, 0, 5, 3, 10, 100);
        year(x, 1, 1, 9, 1, 20, 200);
        year(x, 2, 2, 1, 4, 30, 300);
        Check.due("the third is on a line", x.moves(0, 1, 1), 2);
        year(x, 1, 0, 5, 30, 10, 100);
        year(x, 1, 1, 9, 20, 20, 200);
        year(x, 2, 2, 1, 10, 30, 300);
        Check.due("the second is, too", x.moves(0, 1, 1), 1);
        x.fact(2, 2, 0, 13);
        Check.due("the first is, too", x.moves(0, 1, 1), 0);
        x.fact(1, 1, 4, 201);
        x.fact(2, 2, 1, 9);
        Check.due("off by the least", x.moves(0, 1, 1), 0);
        WaterReview y = firms(3);
        y.fact(1, 0, 2, 7);
        y.fact(1, 0, 3, 70);
        Check.due("one with POINTS", y.moves(0, 0, 1), 2);
        y.fact(1, 1, 1, 0);
        y.fact(1, 1, 3, 50);
        Check.due("off by 50 is more than 0", y.moves(0, 0, 1), 2);
        y.fact(1, 1, 2, 7);
        // Driver 2 is off by (70 less 60) and (60 less 50).
        Check.due("off by 20 is less than 50", y.moves(0, 0, 1), 2);
        y.fact(1, 1, 3, 15);
        // Driver 1 is off by 15, driver 2 (70 and 15 at 7, told 42) by 28 and 27.
        Check.due("off by 15 is less", y.moves(0, 0, 1), 1);
    }

    private static void promise26NoneSuch() {
        WaterReview x = firms(2);
        Check.due("no POINTS", x.moves(0, 0, 1), -1);
        point(x, 1, 0, 5, 50);
        Check.due("a POINT", x.moves(0, 0, 1), 0);
        x.fact(1, 0, 7, 100);
        x.fact(1, 0, 2, 100);
        Check.due("its own alone", x.moves(1, 0, 1), -1);
        Check.due("REVIEW 0 has no years ahead", x.moves(0, 0, 0), -1);
        Check.due("firm 2", x.moves(2, 0, 1), -1);
        Check.due("firm -1", x.moves(-1, 0, 1), -1);
        Check.due("head 4", x.moves(0, 4, 1), -1);
        Check.due("head -1", x.moves(0, -1, 1), -1);
        Check.due("review 3", x.moves(0, 0, 3), -1);
        Check.due("review -1", x.moves(0, 0, -1), -1);
    }
}
