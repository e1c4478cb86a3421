/** Promises 23, 24, 27, 28, 29 and 32: what is TRIED beside, HOLES, what is BORNE, TWICE. */
final class TriedTest {
    private static final long NO = -2_000_000_000_000L;

    private TriedTest() {
    }

    public static void main(String[] args) {
        promise23Tried();
        promise23InPlaceOfItsReview();
        promise23NoneSuch();
        promise24Hole();
        promise24TheLeastOfSeveral();
        promise24AsItIsKnown();
        promise24NoneSuch();
        promise27PutBy();
        promise28Borne();
        promise28AsKnown();
        promise28NoneSuch();
        promise29Best();
        promise29Bound();
        promise29AllFirmsAndYears();
        promise29NoneSuch();
        promise32Twice();
        Check.end();
    }

    private static WaterReview firm(int worth, String rules) {
        WaterReview x = new WaterReview();
        x.firm(worth);
        Check.due("rules of " + rules, Check.rules(x, 0, rules), 0);
        return x;
    }

    private static void promise23Tried() {
        WaterReview x = firm(1000, "return 10;allow run plan 100;");
        x.fact(0, 1, 7, 300);
        Check.due("none beside", x.tried(0, 1), NO);
        Check.beside(x, "return 20;wear 10;allow run plan 50 unless worth<901;");
        Check.due("tried in year 0", x.tried(0, 0), 20);
        Check.due("tried in year 1: WORTH 900", x.tried(0, 1), 18);
        Check.due("REVENUE as it was", x.revenue(0, 1, 0), 310);
        Check.due("WORTH as it was", x.worth(0, 1), 1000);
        Check.beside(x, "amend;return 20;");
        Check.due("amended", x.tried(0, 1), 320);
        x.day(30);
        x.bench(0, 0, 1, 7);
        Check.due("as KNOWN TODAY", x.tried(0, 1), 27);
        x.log(0, 1, 2);
        Check.due("LOGGED TODAY", x.tried(0, 1), 29);
    }

    private static void promise23InPlaceOfItsReview() {
        WaterReview x = firm(1000, "wear 10;share run 50 50;back 10;");
        x.work(0, 100, 3);
        x.fact(0, 4, 3, 40);
        x.fact(0, 5, 3, 80);
        Check.beside(x, "return 100;");
        // WORTH of year 5 by WEAR 10: 1000, 900, 810, 729, 657 (656.1 goes up: 72 are worn), 592.
        Check.due("WORTH of year 5", x.worth(0, 5), 592);
        Check.due("year 5: RETURN and what is left of year 4", x.tried(0, 5), 59 + 20);
        Check.due("year 6: no WEAR, no share in year 5", x.tried(0, 6), 59 + 80);
        // RULES of REVIEW 1 hold for years 5 to 9 then: 592, 533, 480, 432, 389, 351.
        Check.due("year 10 by REVIEW 1's own", x.tried(0, 10), 35);
        Check.beside(x, "back 95;");
        Check.due("what was taken back in year 4 is", x.tried(0, 5), 20 - 90);
        Check.due("nothing is left", x.tried(0, 6), 80);
    }

    private static void promise23NoneSuch() {
        WaterReview x = firm(1000, "");
        Check.beside(x, "return 100;");
        Check.due("firm 1", x.tried(1, 0), NO);
        Check.due("firm -1", x.tried(-1, 0), NO);
        Check.due("year -1", x.tried(0, -1), NO);
        Check.due("year 15", x.tried(0, 15), NO);
        Check.due("year 14", x.tried(0, 14), 100);
    }

    private static void hole(WaterReview x, int year, long kept, long by, long itself) {
        Check.due("HOLE of " + year, x.hole(0, 0, year, 0), kept);
        Check.due("hundredths of " + year, x.hole(0, 0, year, 1), by);
        Check.due("by itself of " + year, x.hole(0, 0, year, 2), itself);
    }

    private static void promise24Hole() {
        WaterReview x = firm(0, "allow run plan 100;share run 40 30;"
                + "share run 0 50 unless year=0 or year=3;allow run plan 70 unless not year=2;");
        x.fact(0, 0, 3, 1000);
        x.fact(0, 1, 3, 1000);
        x.fact(0, 2, 3, 1000);
        x.fact(0, 3, 3, 77);
        // OTHER of 1200 told: -200; the FIRM keeps 30 hundredths.
        hole(x, 0, 60, 120, 0);
        hole(x, 1, 100, 120, 0);
        // ALLOWED 840 of 1200 told; all of it goes to the bills.
        hole(x, 2, 0, 80, 0);
        // 120 hundredths of 77 are 92: -15, of which 4 are kept. 115 of them are 88: -11, 3 kept.
        hole(x, 3, 4, 120, 0);
    }

    private static void promise24TheLeastOfSeveral() {
        WaterReview x = firm(0, "allow run plan 80;share run 50 10;"
                + "allow run plan 200 unless year<2;share run 50 0 unless not year=2;");
        x.fact(0, 0, 3, 1000);
        x.fact(0, 1, 3, 3);
        x.fact(0, 2, 3, 1000);
        x.fact(0, 3, 3, 10);
        // ALLOWED 960 of 1200 told: the least is borne.
        hole(x, 0, -20, 120, -100);
        // 120 hundredths of 3 are 3, 80 of those 2: 1 is OTHER, nothing of it borne. 95 tell 2,
        // 1 ALLOWED: 2 are OTHER, 1 borne. 100 tell 3.
        hole(x, 1, 0, 100, 0);
        // From ALLOWED 1600 on nothing is kept.
        hole(x, 2, 0, 80, 0);
        // ALLOWED 20 and 24: 1 kept of 10 and of 14; 18 and less: nothing.
        hole(x, 3, 1, 100, 1);
    }

    private static void promise24AsItIsKnown() {
        WaterReview x = firm(0, "allow run plan 100;share run 50 50;");
        x.fact(0, 5, 7, 444);
        x.day(550);
        Check.due("without COST", x.hole(0, 0, 5, 0), NO);
        x.fact(0, 5, 3, 100);
        hole(x, 5, 10, 120, 0);
        x.bench(0, 0, 5, 7);
        hole(x, 5, 10, 120, 0);
        x.day(600);
        x.fact(0, 5, 3, 200);
        hole(x, 5, 20, 120, 0);
        Check.rules(x, 1, "allow run mean 0 100;");
        hole(x, 5, 20, 120, 0);
        x.fact(0, 10, 3, 60);
        Check.due("by mean in REVIEW 2", x.hole(0, 0, 10, 0), NO);
    }

    private static void promise24NoneSuch() {
        WaterReview x = firm(0, "allow run plan 100;allow pipes line 0 100;"
                + "allow power mean 0 100;allow other best 0 100;");
        for (int head = 0; head < 4; head++) {
            x.fact(0, 0, 3 + head, 100);
            Check.due("HOLE of head " + head, x.hole(0, head, 0, 0), head == 0 ? 0 : NO);
        }
        Check.due("firm 1", x.hole(1, 0, 0, 0), NO);
        Check.due("firm -1", x.hole(-1, 0, 0, 0), NO);
        Check.due("head 4", x.hole(0, 4, 0, 0), NO);
        Check.due("head -1", x.hole(0, -1, 0, 0), NO);
        Check.due("year -1", x.hole(0, 0, -1, 0), NO);
        Check.due("year 15", x.hole(0, 0, 15, 0), NO);
        Check.due("what -1", x.hole(0, 0, 0, -1), NO);
        Check.due("what 3", x.hole(0, 0, 0, 3), NO);
        WaterReview y = firm(0, "");
        y.fact(0, 0, 3, 100);
        Check.due("without allow", y.hole(0, 0, 0, 1), NO);
        WaterReview z = firm(0, "allow other plan 100;share other 0 50;");
        z.fact(0, 0, 6, 1000);
        Check.due("HOLE of head 3", z.hole(0, 3, 0, 0), 100);
        z.fact(0, 0, 10, 1000);
        Check.due("head 4 has no COST", z.hole(0, 4, 0, 0), NO);
    }

    private static void promise27PutBy() {
        WaterReview x = firm(1000, "");
        Check.due("none beside", x.putBy(), -1);
        Check.beside(x, "return 5;");
        Check.due("the first", x.putBy(), 0);
        Check.due("beside still", x.count(8), 1);
        Check.due("tried still", x.tried(0, 0), 5);
        Check.due("again", x.putBy(), 1);
        Check.beside(x, "return");
        Check.due("none beside by a FAULT", x.putBy(), -1);
        Check.due("put by stay", x.count(10), 2);
        Check.beside(x, "return 4;");
        Check.due("the third", x.putBy(), 2);
        Check.due("the fourth", x.putBy(), 3);
        Check.due("the fifth", x.putBy(), -1);
        Check.due("four", x.count(10), 4);
        Check.due("the third is the cheapest", x.best(0, 0), 2);
    }

    private static void promise28Borne() {
        WaterReview x = firm(0, "share run 33 0;share pipes 50 66;share other 100 100;"
                + "allow pipes plan 100;allow run plan 100 unless year=4;");
        x.firm(0);
        Check.due("nothing", x.borne(0, 0), 0);
        x.fact(0, 0, 3, 100);
        Check.due("33 of 100", x.borne(0, 0), 33);
        x.fact(0, 0, 7, 98);
        Check.due("of 2 none", x.borne(0, 0), 0);
        x.fact(0, 4, 3, 10);
        Check.due("3 of 10", x.borne(0, 0), 3);
        x.fact(0, 3, 8, 50);
        Check.due("without COST nothing is kept", x.borne(0, 0), 3);
        x.fact(0, 3, 4, 9);
        Check.due("27 kept of 41", x.borne(0, 0), -24);
        x.fact(0, 1, 5, 7777);
        Check.due("without share", x.borne(0, 0), -24);
        x.fact(0, 2, 6, 800);
        Check.due("all", x.borne(0, 0), 776);
        x.fact(0, 5, 6, 5);
        x.fact(1, 0, 6, 9);
        Check.due("not of another REVIEW, another FIRM", x.borne(0, 0), 776);
        Check.due("REVIEW 1", x.borne(0, 1), 5);
        Check.due("REVIEW 2", x.borne(0, 2), 0);
        Check.due("firm 1", x.borne(1, 0), 9);
    }

    private static void promise28AsKnown() {
        WaterReview x = firm(0, "share run 100 100;");
        x.fact(0, 0, 3, 100);
        x.day(40);
        x.fact(0, 0, 3, 60);
        Check.due("the last told", x.borne(0, 0), 60);
        x.bench(0, 0, 0, 75);
        Check.due("a BENCH word", x.borne(0, 0), -15);
        x.bench(0, 0, 1, 75);
        Check.due("a BENCH word without COST", x.borne(0, 0), -15);
    }

    private static void promise28NoneSuch() {
        WaterReview x = firm(0, "");
        Check.due("firm 1", x.borne(1, 0), NO);
        Check.due("firm -1", x.borne(-1, 0), NO);
        Check.due("review -1", x.borne(0, -1), NO);
        Check.due("review 3", x.borne(0, 3), NO);
    }

    private static void put(WaterReview x, String rules) {
        Check.due("beside: " + rules, Check.beside(x, rules), 0);
        x.putBy();
    }

    private static void promise29Best() {
        WaterReview x = firm(1000, "return 1;");
        Check.due("none put by", x.best(0, 99999), -1);
        put(x, "return 30;");
        Check.due("one", x.best(0, 0), 0);
        put(x, "return 20;");
        put(x, "return 20;");
        put(x, "return 25;");
        Check.due("the first of several", x.best(0, 0), 1);
        Check.due("in REVIEW 2", x.best(2, 99999), 1);
        Check.due("REVENUE as it was", x.revenue(0, 0, 0), 1);
        WaterReview y = new WaterReview();
        put(y, "return 1;");
        put(y, "");
        Check.due("no FIRMS: the first", y.best(1, 0), 0);
    }

    private static void promise29Bound() {
        WaterReview x = firm(1000, "");
        x.firm(0);
        x.fact(0, 6, 3, 100);
        x.fact(1, 7, 4, 300);
        put(x, "share run 100 0;share pipes 100 0;");
        put(x, "share run 100 0;share pipes 50 0;");
        put(x, "share run 50 0;");
        put(x, "return 7;");
        // BORNE by firm 1: 300, 150, 0, 0; by firm 0: 100, 100, 50, 0.
        Check.due("not above 300", x.best(1, 300), 0);
        Check.due("not above 299", x.best(1, 299), 1);
        Check.due("not above 150", x.best(1, 150), 1);
        Check.due("not above 149", x.best(1, 149), 2);
        Check.due("not above 50", x.best(1, 50), 2);
        Check.due("not above 49", x.best(1, 49), 3);
        Check.due("not above 0", x.best(1, 0), 3);
        Check.due("nothing in REVIEW 0", x.best(0, 0), 0);
        WaterReview y = firm(1000, "");
        y.fact(0, 6, 3, 100);
        put(y, "share run 100 0;");
        Check.due("none is within it", y.best(1, 99), -1);
        Check.due("one is", y.best(1, 100), 0);
        y.bench(0, 0, 6, 1);
        Check.due("as KNOWN TODAY", y.best(1, 99), 0);
        for (int review = 0; review < 3; review++) {
            WaterReview z = firm(1000, "");
            put(z, "share run 100 0;");
            z.fact(0, 5 * review, 3, 40);
            z.fact(0, 5 * review + 4, 3, 50);
            Check.due("within 90 in " + review, z.best(review, 90), 0);
            Check.due("within 89 in " + review, z.best(review, 89), -1);
            Check.due("within 0 in another one", z.best((review + 1) % 3, 0), 0);
        }
    }

    private static void promise29AllFirmsAndYears() {
        WaterReview x = firm(1000, "return 100;");
        x.firm(10);
        put(x, "return 10 unless firm=1;return 500 unless firm=0;");
        put(x, "return 9 unless firm=1;return 499 unless firm=0 or year=8;");
        put(x, "return 11;");
        // In all: 50 and 25; 45 and 16 (none in year 8); 55 and 0.
        Check.due("all FIRMS together", x.best(1, 0), 2);
        put(x, "return 12 unless year=9;return 1 unless not year=9;");
        Check.due("all YEARS together", x.best(1, 0), 3);
        Check.due("of REVIEW 0", x.best(0, 0), 2);
        for (int review = 0; review < 3; review++) {
            WaterReview u = firm(1000, "");
            put(u, "return 10;");
            put(u, "return 12 unless year=4 or year=9 or year=14;");
            Check.due("the last YEAR of REVIEW " + review, u.best(review, 0), 1);
        }
        WaterReview y = firm(1000, "wear 100 unless year=0;");
        y.fact(0, 9, 3, 5000);
        put(y, "allow run plan 100;");
        put(y, "return 1;");
        Check.due("what goes to a YEAR behind isn't its own", y.best(1, 99999), 0);
        y.fact(0, 8, 3, 3);
        Check.due("of as many REVENUES", y.best(1, 99999), 0);
        WaterReview z = firm(1000, "wear 50;");
        put(z, "return 10;");
        put(z, "wear 50;return 15;");
        Check.due("WORTH by the RULES themselves", z.best(0, 0), 1);
        WaterReview w = new WaterReview();
        w.firm(1000);
        Check.rules(w, 0, "index 90;");
        put(w, "return 10 unless worth>999;");
        put(w, "return 1;");
        // 590 and less as REVIEW 1 begins: the RULES of REVIEW 0 count, though nothing asked ahead.
        Check.due("WORTH by the RULES of the REVIEWS ahead", w.best(1, 0), 1);
        WaterReview v = new WaterReview();
        v.firm(999);
        Check.rules(v, 0, "index 150;");
        put(v, "return 10 unless worth>999;");
        put(v, "return 1;");
        Check.due("WORTH risen by them", v.best(1, 0), 0);
    }

    private static void promise29NoneSuch() {
        WaterReview x = firm(1000, "");
        put(x, "");
        Check.due("review -1", x.best(-1, 0), -1);
        Check.due("review 3", x.best(3, 0), -1);
        Check.due("bound -1", x.best(0, -1), -1);
        Check.due("bound 100,000", x.best(0, 100000), -1);
        Check.due("bound 99,999", x.best(0, 99999), 0);
    }

    private static void pair(WaterReview x, int k, int first, int second) {
        Check.due("first of pair " + k, x.twice(k, 0), first);
        Check.due("second of pair " + k, x.twice(k, 1), second);
    }

    private static void promise32Twice() {
        WaterReview x = firm(0, "");
        x.firm(0);
        pair(x, 0, -1, -1);
        x.work(0, 50, 3);
        x.work(1, 50, 3);
        x.work(0, 51, 3);
        x.work(0, 50, 5);
        pair(x, 0, -1, -1);
        x.work(0, 50, 4);
        pair(x, 0, 0, 4);
        pair(x, 1, 3, 4);
        pair(x, 2, -1, -1);
        x.work(1, 50, 2);
        x.work(0, 51, 3);
        pair(x, 1, 1, 5);
        pair(x, 2, 2, 6);
        pair(x, 3, 3, 4);
        pair(x, 4, -1, -1);
        x.done(0);
        pair(x, 0, 0, 4);
        Check.due("k -1", x.twice(-1, 0), -1);
        Check.due("what -1", x.twice(0, -1), -1);
        Check.due("what 2", x.twice(0, 2), -1);
        Check.due("k of the largest int", x.twice(Integer.MAX_VALUE, 0), -1);
        WaterReview y = firm(0, "");
        for (int i = 0; i < 40; i++) {
            y.work(0, 9, 7);
        }
        pair(y, 0, 0, 1);
        pair(y, 38, 0, 39);
        pair(y, 39, 1, 2);
        pair(y, 779, 38, 39);
        pair(y, 780, -1, -1);
    }
}
