import java.util.List;

/**
 * The edges of what is told, a test for each sentence: Terms 1 and Promises 1 to 9, 30 and 34.
 */
final class EdgeToldTest {
    private static final int NONE = -1;
    private static final long NO_COINS = -2_000_000_000_000L;
    private static final int MIN = Integer.MIN_VALUE;
    private static final int MAX = Integer.MAX_VALUE;

    private EdgeToldTest() {
    }

    public static void main(String[] args) {
        none();
        terms1();
        promise1();
        promise2();
        promise3();
        promise4();
        promise5();
        promise6();
        promise7();
        promise8();
        promise9();
        promise30();
        promise34();
        Check.end();
    }

    private static void none() {
        Check.says("The constants", "`NONE = -1`: There is none.");
        Check.due("NONE", WaterReview.NONE, -1);
    }

    // ---- Terms 1

    private static void terms1() {
        todayIs0AtFirst();
        days();
        aYearHas100();
        years0To14();
        aYearBeginsOn100TimesIt();
        reviews0To2();
        yearsOfAReview();
        decidedAsItBegins();
        firmsUpTo11();
        worthAsYear0Begins();
        heads();
        factsUpTo500();
        drivers();
        costsAndPlans();
        homesAndOutputs();
        knownFromTheDay();
        eachForItself();
        theLastToldHolds();
        worksUpTo40();
        worksCoins();
        worksDone();
        benchUpTo20();
        benchKnown();
        loggedUpTo20();
        loggedLaterThanToday();
    }

    private static void todayIs0AtFirst() {
        Check.says("Terms 1", "TODAY is 0 at first");
        WaterReview x = new WaterReview();
        Check.due("TODAY", x.count(0), 0);
        x.firm(5);
        x.fact(0, 0, 0, 7);
        Check.due("what is told at first is KNOWN by 0", x.known(0, 0, 0, 0), 7);
        Check.due("day 0 isn't later", x.day(0), false);
    }

    private static void days() {
        Check.says("Terms 1", "DAYS 0 to 1,499");
        Story s = Story.ofFirms(5);
        s.answers("day 1", 1, x -> x.day(1) ? 1 : 0);
        s.answers("day 1499", 1, x -> x.day(1499) ? 1 : 0);
        s.answers("day 1500", 0, x -> x.day(1500) ? 1 : 0);
        s.fact(0, 0, 0, 7);
        s.answers("KNOWN by 0", 7, x -> x.known(0, 0, 0, 0));
        s.answers("KNOWN by 1499", 7, x -> x.known(0, 0, 0, 1499));
        s.answers("KNOWN by -1", NONE, x -> x.known(0, 0, 0, -1));
        s.answers("KNOWN by 1500", NONE, x -> x.known(0, 0, 0, 1500));
        s.answers("LINE by 1499", 0, x -> x.line(0, 0, 1499, 0));
        s.answers("LINE by 1500", NO_COINS, x -> x.line(0, 0, 1500, 0));
    }

    private static void aYearHas100() {
        Check.says("Terms 1", "a YEAR has 100");
        for (int year = 0; year < 15; year++) {
            int y = year;
            for (int day : new int[] {100 * y, 100 * y + 1, 100 * y + 99}) {
                Story s = Story.ofFirms(1000).work(0, 7, y).day(day).done(0);
                s.answers("WORTH as year " + y + " begins, DONE on " + day, 1000,
                        x -> x.worth(0, y));
                s.answers("WORTH of the next year, DONE on " + day, y < 14 ? 1007 : NO_COINS,
                        x -> x.worth(0, y + 1));
            }
        }
    }

    private static void years0To14() {
        Check.says("Terms 1", "(0 to 14;");
        Story s = Story.ofFirms(1000);
        s.answers("year -1", NO_COINS, x -> x.worth(0, -1));
        s.answers("year 0", 1000, x -> x.worth(0, 0));
        s.answers("year 14", 1000, x -> x.worth(0, 14));
        s.answers("year 15", NO_COINS, x -> x.worth(0, 15));
        s.answers("a FACT of year 0", 0, x -> x.fact(0, 0, 0, 1));
        s.answers("a FACT of year 14", 0, x -> x.fact(0, 14, 0, 1));
        s.answers("a FACT of year 15", NONE, x -> x.fact(0, 15, 0, 1));
    }

    private static void aYearBeginsOn100TimesIt() {
        Check.says("Terms 1", "it BEGINS on 100 times it)");
        for (int year = 1; year < 15; year++) {
            int y = year;
            Story ahead = Story.ofFirms(5).day(100 * y - 1);
            ahead.answers("LOGGED for year " + y + " the day ahead", 1, x -> x.log(0, y, 1));
            Story then = Story.ofFirms(5).day(100 * y);
            then.answers("LOGGED for year " + y + " as it begins", NONE, x -> x.log(0, y, 1));
        }
        Story late = Story.ofFirms(5).rules(0, "back 50;").work(0, 10, 3);
        Story.of(late).day(399).done(0).answers("DONE the day ahead", 0, x -> x.line(0, 4, 0, 6));
        Story.of(late).day(400).done(0).answers("DONE as it begins", -5, x -> x.line(0, 4, 0, 6));
    }

    private static void reviews0To2() {
        Check.says("Terms 1", "REVIEWS 0 to 2");
        Story s = Story.ofFirms(5).tape("log 5;");
        s.answers("REVIEW -1", -2, x -> x.rules(6, -1));
        s.answers("REVIEW 0", 0, x -> x.rules(6, 0));
        s.answers("REVIEW 2", 0, x -> x.rules(6, 2));
        s.answers("REVIEW 3", -2, x -> x.rules(6, 3));
        s.answers("POINTS of REVIEW 2", 0, x -> x.points(0, 0, 2, 0, 0));
        s.answers("POINTS of REVIEW 3", NONE, x -> x.points(0, 0, 3, 0, 0));
    }

    private static void yearsOfAReview() {
        Check.says("Terms 1", "of YEARS 5 r to 5 r and 4");
        Story s = Story.ofFirms(1000).rules(0, "return 1;").rules(1, "return 2;");
        s.rules(2, "return 3;");
        for (int year = 0; year < 15; year++) {
            int y = year;
            s.answers("RETURN of year " + y, 1 + y / 5, x -> x.line(0, y, 0, 4));
        }
        Story first = Story.ofFirms(1000).rules(1, "log 1;");
        first.answers("year 4 is ahead of REVIEW 1", NONE, x -> x.holds(0, 4, 8, 0));
        first.answers("year 5 is of REVIEW 1", 0, x -> x.holds(0, 5, 8, 0));
    }

    private static void decidedAsItBegins() {
        Check.says("Terms 1", "decided as it BEGINS (DAY 500 r)");
        for (int r = 0; r < 3; r++) {
            int review = r;
            Story on = Story.ofFirms(5).day(500 * r).rules(r, "log 1;");
            on.answers("told on its day", 0, x -> x.review(review, 0));
            Story behind = Story.ofFirms(5).day(500 * r + 1).rules(r, "log 1;");
            behind.answers("told a day later", NONE, x -> x.review(review, 0));
        }
    }

    private static void firmsUpTo11() {
        Check.says("Terms 1", "FIRMS, up to 11");
        Story s = new Story();
        for (int i = 0; i < 11; i++) {
            int number = i;
            s.answers("firm " + i, number, x -> x.firm(100 + number));
            s.then(x -> x.firm(100 + number));
        }
        s.answers("the twelfth", NONE, x -> x.firm(5));
        s.answers("the eleventh is there", 110, x -> x.worth(10, 0));
        s.then(x -> x.firm(5));
        s.answers("the thirteenth", NONE, x -> x.firm(5));
        s.answers("a FACT of the eleventh", 0, x -> x.fact(10, 14, 16, 1));
        s.answers("a FACT of the twelfth", NONE, x -> x.fact(11, 14, 16, 1));
    }

    private static void worthAsYear0Begins() {
        Check.says("Terms 1", "each with a WORTH as YEAR 0 BEGINS (0 to 999,999)");
        Story s = new Story();
        s.answers("0", 0, x -> x.firm(0));
        s.answers("999,999", 0, x -> x.firm(999999));
        s.answers("-1", NONE, x -> x.firm(-1));
        s.answers("1,000,000", NONE, x -> x.firm(1000000));
        Story.ofFirms(0).answers("WORTH 0", 0, x -> x.worth(0, 0));
        Story.ofFirms(999999).answers("WORTH 999,999", 999999, x -> x.worth(0, 0));
        Story.ofFirms(8).rules(0, "index 150;").work(0, 7, 0).done(0)
                .answers("as year 0 begins, whatever comes then", 8, x -> x.worth(0, 0));
    }

    private static void heads() {
        Check.says("Terms 1", "HEADS 0 run, 1 pipes, 2 power, 3 other.");
        String[] heads = {"run", "pipes", "power", "other"};
        for (int h = 0; h < 4; h++) {
            Story s = Story.ofFirms(5).rules(0, "allow " + heads[h] + " plan 100;");
            Story shared = Story.ofFirms(5).rules(0, "share " + heads[h] + " 10 0;");
            for (int other = 0; other < 4; other++) {
                int head = other;
                s.fact(0, 0, 7 + head, 100 + head);
                shared.fact(0, 0, 3 + head, 100);
            }
            for (int other = 0; other < 4; other++) {
                int head = other;
                s.answers("ALLOWED of " + head + " by " + heads[h], h == head ? 100 + head : 0,
                        x -> x.allowed(0, head, 0, 0));
                shared.answers("SHARED of " + head + " by " + heads[h], h == head ? 90 : 100,
                        x -> x.line(0, 1, 0, 10 + head));
            }
        }
        Story.ofFirms(5).answers("HEAD 4", NONE, x -> x.bench(0, 4, 0, 5));
        Story.ofFirms(5).answers("HEAD -1", NONE, x -> x.bench(0, -1, 0, 5));
    }

    private static void factsUpTo500() {
        Check.says("Terms 1", "FACTS, up to 500: of a FIRM and a YEAR");
        Story s = Story.ofFirms(5);
        for (int i = 0; i < 499; i++) {
            s.fact(0, 3, 0, i);
        }
        s.answers("the 500th", 499, x -> x.fact(0, 3, 0, 700));
        s.fact(0, 3, 0, 700);
        s.answers("it is KNOWN", 700, x -> x.known(0, 3, 0, 0));
        s.answers("the 501st", NONE, x -> x.fact(0, 3, 0, 701));
        s.answers("of another thing", NONE, x -> x.fact(0, 0, 16, 1));
        Story spread = Story.ofFirms(1, 2);
        for (int i = 0; i < 500; i++) {
            spread.fact(i % 2, i % 15, i % 17, i);
        }
        spread.answers("the 501st of many things", NONE, x -> x.fact(1, 14, 16, 1));
        spread.answers("500 are there", 500, x -> x.count(2));
        spread.answers("the 500th of many things", 499, x -> x.known(1, 4, 6, 0));
    }

    private static void factsBounds(int first, int last, int most) {
        Story s = Story.ofFirms(5);
        for (int what = first; what <= last; what++) {
            int w = what;
            s.answers("0 of " + w, 0, x -> x.fact(0, 3, w, 0));
            s.answers(most + " of " + w, 0, x -> x.fact(0, 3, w, most));
            s.answers("-1 of " + w, NONE, x -> x.fact(0, 3, w, -1));
            s.answers(most + 1 + " of " + w, NONE, x -> x.fact(0, 3, w, most + 1));
            Story.of(s).fact(0, 3, w, 0).answers("known 0", 0, x -> x.known(0, 3, w, 0));
            Story.of(s).fact(0, 3, w, most).answers("known most", most,
                    x -> x.known(0, 3, w, 0));
        }
    }

    private static void drivers() {
        Check.says("Terms 1", "0 to 2 DRIVERS (0 to 999)");
        factsBounds(0, 2, 999);
        Story.ofFirms(5).answers("what -1", NONE, x -> x.fact(0, 3, -1, 0));
        for (int driver = 0; driver < 3; driver++) {
            int d = driver;
            Story.ofFirms(1, 1).point(1, 0, d, 999, 0, 5).answers("DRIVER " + d, 999,
                    x -> x.points(0, 0, 1, d, 1));
        }
    }

    private static void costsAndPlans() {
        Check.says("Terms 1", "3 to 6 COSTS by HEADS, 7 to 10 PLANS by HEADS (0 to 99,999 each)");
        factsBounds(3, 10, 99999);
        Story s = Story.ofFirms(5).rules(0, "allow run plan 100;allow pipes plan 100;"
                + "allow power plan 100;allow other plan 100;");
        for (int head = 0; head < 4; head++) {
            int h = head;
            Story told = Story.of(s).fact(0, 0, 3 + h, 99999).fact(0, 1, 7 + h, 99998);
            told.answers("COST " + h, 99999, x -> x.line(0, 1, 0, 10 + h));
            told.answers("PLAN " + h, 99998, x -> x.line(0, 1, 0, h));
        }
    }

    private static void homesAndOutputs() {
        Check.says("Terms 1",
                "11 to 13 homes of kind 0 to 2, 14 to 16 OUTPUTS 0 to 2 (0 to 9,999 each)");
        factsBounds(11, 16, 9999);
        Story.ofFirms(5).answers("what 17", NONE, x -> x.fact(0, 3, 17, 0));
        int[] parts = {2, 3, 5};
        for (int kind = 0; kind < 3; kind++) {
            int k = kind;
            Story.ofFirms(0).work(0, 9999, 0).fact(0, 0, 11 + k, 9999).answers("home " + k, 1,
                    x -> x.home(0, 0, 0, k));
            Story.ofFirms(0).work(0, 30, 0).fact(0, 0, 11 + k, 1).answers("parts of " + k,
                    60 / parts[k], x -> x.home(0, 0, 0, 0));
            Story.ofFirms(0).rules(0, "target " + k + " more 0 step 1 coin 1 dead 0 cap 99999;")
                    .fact(0, 0, 14 + k, 9999).answers("OUTPUT " + k, 9999,
                    x -> x.line(0, 1, 0, 7 + k));
        }
    }

    private static void knownFromTheDay() {
        Check.says("Terms 1", "KNOWN from the DAY on which it's told");
        for (int day : new int[] {1, 2, 99, 100, 500, 1498, 1499}) {
            Story s = Story.ofFirms(5).day(day).fact(0, 0, 3, 5);
            s.answers("by the day ahead of " + day, NONE, x -> x.known(0, 0, 3, day - 1));
            s.answers("by day 0 of " + day, NONE, x -> x.known(0, 0, 3, 0));
            s.answers("by day " + day, 5, x -> x.known(0, 0, 3, day));
            s.answers("by day 1499 of " + day, 5, x -> x.known(0, 0, 3, 1499));
        }
    }

    /** FACTS of one thing are nothing to those that stand next to it. */
    private static void eachForItself() {
        Check.says("Terms 1", "FACTS, up to 500: of a FIRM and a YEAR");
        Story s = Story.ofFirms(1, 1, 1, 1, 1, 1, 1, 1, 1, 1, 1);
        for (int what = 0; what < 17; what++) {
            int w = what;
            for (int firm = 0; firm < 10; firm++) {
                int f = firm;
                Story.of(s).fact(f, 14, w, 1).answers("the next FIRM's first YEAR", NONE,
                        x -> x.known(f + 1, 0, w, 0));
                Story.of(s).fact(f + 1, 0, w, 1).answers("the last YEAR of the FIRM ahead", NONE,
                        x -> x.known(f, 14, w, 0));
                Story.of(s).fact(f + 1, 5, w, 1).answers("the FIRM ahead", NONE,
                        x -> x.known(f, 5, w, 0));
            }
            for (int year = 0; year < 14; year++) {
                int y = year;
                Story.of(s).fact(3, y, w, 1).answers("the next YEAR", NONE,
                        x -> x.known(3, y + 1, w, 0));
                Story.of(s).fact(3, y, 16, 1).answers("the next YEAR's first thing", NONE,
                        x -> x.known(3, y + 1, 0, 0));
                Story.of(s).fact(3, y + 1, 0, 1).answers("the last thing of the YEAR ahead", NONE,
                        x -> x.known(3, y, 16, 0));
            }
        }
        // 240 different things, all told to one object.
        for (int part = 0; part < 12; part++) {
            Story all = Story.of(s);
            for (int i = 0; i < 240; i++) {
                int thing = 240 * part + i;
                all.fact(thing / 17 / 15, thing / 17 % 15, thing % 17, i);
            }
            WaterReview x = all.told();
            for (int i = 0; i < 240 && 240 * part + i < 11 * 15 * 17; i++) {
                int thing = 240 * part + i;
                Check.due("thing " + thing, x.known(thing / 17 / 15, thing / 17 % 15, thing % 17, 0),
                        i);
            }
        }
    }

    private static void theLastToldHolds() {
        Check.says("Terms 1", "of those KNOWN the last told holds; none.");
        Story s = Story.ofFirms(5).fact(0, 2, 3, 9).fact(0, 2, 3, 4).day(7).fact(0, 2, 3, 6);
        s.fact(0, 2, 3, 2).day(8).fact(0, 2, 3, 0);
        s.answers("by 0: the last of day 0", 4, x -> x.known(0, 2, 3, 0));
        s.answers("by 6", 4, x -> x.known(0, 2, 3, 6));
        s.answers("by 7: the last of day 7", 2, x -> x.known(0, 2, 3, 7));
        s.answers("by 8: a 0 holds, too", 0, x -> x.known(0, 2, 3, 8));
        s.answers("none of another year", NONE, x -> x.known(0, 1, 3, 8));
        s.answers("none of another thing", NONE, x -> x.known(0, 2, 4, 8));
    }

    private static void worksUpTo40() {
        Check.says("Terms 1", "WORKS, up to 40");
        Story s = Story.ofFirms(5, 6);
        for (int i = 0; i < 40; i++) {
            int coins = i + 1;
            s.answers("work " + i, i, x -> x.work(coins % 2, coins, 14));
            s.work(coins % 2, coins, 14);
        }
        s.answers("the 41st", NONE, x -> x.work(0, 1, 0));
        s.answers("40 are there", 40, x -> x.count(3));
        s.answers("the coins of the even ones", 420, x -> x.line(0, 14, 0, 5));
        s.answers("the coins of the odd ones", 400, x -> x.line(1, 14, 0, 5));
        s.answers("the last one is DONE", 1, x -> x.done(39) ? 1 : 0);
    }

    private static void worksCoins() {
        Check.says("Terms 1", "of a FIRM, coins 1 to 99,999, due in a YEAR");
        Story s = Story.ofFirms(5);
        s.answers("0 coins", NONE, x -> x.work(0, 0, 3));
        s.answers("1 coin", 0, x -> x.work(0, 1, 3));
        s.answers("99,999 coins", 0, x -> x.work(0, 99999, 3));
        s.answers("100,000 coins", NONE, x -> x.work(0, 100000, 3));
        s.answers("due in -1", NONE, x -> x.work(0, 1, -1));
        s.answers("due in 0", 0, x -> x.work(0, 1, 0));
        s.answers("due in 14", 0, x -> x.work(0, 1, 14));
        s.answers("due in 15", NONE, x -> x.work(0, 1, 15));
        Story.of(s).day(1499).answers("due in a year gone", 0, x -> x.work(0, 1, 0));
    }

    private static void worksDone() {
        Check.says("Terms 1", "DONE on a DAY.");
        Story s = Story.ofFirms(50).work(0, 7, 0).day(199).done(0).day(999);
        s.answers("WORTH as year 1 begins", 50, x -> x.worth(0, 1));
        s.answers("WORTH as year 2 begins", 57, x -> x.worth(0, 2));
        s.answers("WORTH as year 14 begins", 57, x -> x.worth(0, 14));
        Story firms = Story.ofFirms(50, 60, 70).work(1, 7, 0).done(0);
        firms.answers("of the FIRM ahead nothing", 50, x -> x.worth(0, 1));
        firms.answers("of its FIRM", 67, x -> x.worth(1, 1));
        firms.answers("of the FIRM behind nothing", 70, x -> x.worth(2, 1));
        Story.ofFirms(50).work(0, 7, 9).done(0).answers("DONE ahead of its YEAR", 57,
                x -> x.worth(0, 1));
    }

    private static void benchUpTo20() {
        Check.says("Terms 1",
                "BENCH, up to 20 words: what is allowed for a FIRM, HEAD and YEAR");
        Story s = Story.ofFirms(5, 6);
        for (int i = 1; i <= 20; i++) {
            int word = i;
            s.answers("word " + i, word, x -> x.bench(1, 3, 14, word));
            s.bench(1, 3, 14, word);
        }
        s.answers("the 21st", NONE, x -> x.bench(1, 3, 14, 99));
        s.answers("the 20th holds", 20, x -> x.allowed(1, 3, 14, 0));
        s.then(x -> x.bench(1, 3, 14, 99));
        s.answers("the 20th holds still", 20, x -> x.allowed(1, 3, 14, 0));
        Story one = Story.ofFirms(5, 6).bench(1, 3, 14, 7);
        one.answers("another FIRM", 0, x -> x.allowed(0, 3, 14, 0));
        one.then(x -> x.firm(7));
        one.answers("the FIRM behind", 0, x -> x.allowed(2, 3, 14, 0));
        one.answers("the HEAD and YEAR", 7, x -> x.allowed(1, 3, 14, 0));
        one.answers("another HEAD", 0, x -> x.allowed(1, 2, 14, 0));
        one.answers("another YEAR", 0, x -> x.allowed(1, 3, 13, 0));
    }

    private static void benchKnown() {
        Check.says("Terms 1", "KNOWN from TODAY (the last one holds)");
        Story s = Story.ofFirms(5).bench(0, 0, 2, 70).bench(0, 0, 2, 60).day(9);
        s.bench(0, 0, 2, 90).bench(0, 0, 2, 80).day(10).bench(0, 0, 2, 0);
        int[] days = {0, 8, 9, 10, 1499};
        int[] due = {60, 60, 80, 0, 0};
        for (int i = 0; i < days.length; i++) {
            int day = days[i];
            s.answers("ALLOWED by " + day, due[i], x -> x.allowed(0, 0, 2, day));
        }
        Story later = Story.ofFirms(5).day(9).bench(0, 0, 2, 90);
        later.answers("by the day ahead there is none", 0, x -> x.allowed(0, 0, 2, 8));
    }

    private static void loggedUpTo20() {
        Check.says("Terms 1", "LOGGED, up to 20");
        Story s = Story.ofFirms(5, 6);
        for (int i = 1; i <= 20; i++) {
            int coins = i;
            s.answers("log " + i, coins, x -> x.log(1, 14, coins));
            s.log(1, 14, coins);
        }
        s.answers("the 21st", NONE, x -> x.log(1, 14, 99));
        s.then(x -> x.log(0, 3, 99));
        s.answers("all of them", 210, x -> x.line(1, 14, 0, 14));
        s.answers("of another FIRM nothing", 0, x -> x.line(0, 3, 0, 14));
        s.answers("of another YEAR nothing", 0, x -> x.line(1, 13, 0, 14));
        s.then(x -> x.firm(7));
        s.answers("of the FIRM behind nothing", 0, x -> x.line(2, 14, 0, 14));
    }

    private static void loggedLaterThanToday() {
        Check.says("Terms 1",
                "coins (1 to 99,999) for a FIRM and a YEAR later than TODAY's, KNOWN from TODAY.");
        Story s = Story.ofFirms(5).day(250);
        s.answers("0 coins", NONE, x -> x.log(0, 3, 0));
        s.answers("1 coin", 1, x -> x.log(0, 3, 1));
        s.answers("99,999 coins", 1, x -> x.log(0, 3, 99999));
        s.answers("100,000 coins", NONE, x -> x.log(0, 3, 100000));
        s.answers("a year gone", NONE, x -> x.log(0, 1, 1));
        s.answers("TODAY's year", NONE, x -> x.log(0, 2, 1));
        s.answers("the year behind", 1, x -> x.log(0, 3, 1));
        s.answers("year 14", 1, x -> x.log(0, 14, 1));
        s.answers("year 15", NONE, x -> x.log(0, 15, 1));
        Story.ofFirms(5).day(1400).answers("in the last year none is later", NONE,
                x -> x.log(0, 14, 1));
        Story.ofFirms(5).day(1399).answers("a day ahead one is", 1, x -> x.log(0, 14, 1));
        s.log(0, 3, 40).day(251).log(0, 3, 2);
        s.answers("KNOWN by the day ahead", 0, x -> x.line(0, 3, 249, 14));
        s.answers("KNOWN by the first day", 40, x -> x.line(0, 3, 250, 14));
        s.answers("KNOWN by the second day", 42, x -> x.line(0, 3, 251, 14));
    }

    // ---- Promises

    private static void promise1() {
        Check.says("Promise 1", "No FIRMS, RULES.");
        Story s = new Story();
        for (int what = 0; what <= 10; what++) {
            int k = what;
            s.answers("count " + k, 0, x -> x.count(k));
        }
        for (int review = 0; review < 3; review++) {
            int r = review;
            for (int what = 0; what < 4; what++) {
                int k = what;
                s.answers("review " + r + " " + k, NONE, x -> x.review(r, k));
            }
            s.answers("best " + r, NONE, x -> x.best(r, 99999));
        }
        noFirmAtFirst(s);
        s.answers("fault", NONE, x -> x.fault());
        s.answers("putBy", NONE, x -> x.putBy());
        s.answers("twice", NONE, x -> x.twice(0, 0));
        s.answers("done", 0, x -> x.done(0) ? 1 : 0);
        s.answers("an amending text has nothing to strike", NONE, x -> Check.rules(x, 0,
                "amend;strike 0;"));
        Story.ofFirms(5).refuses("tried by none", NO_COINS, x -> x.tried(0, 0));
    }

    private static void noFirmAtFirst(Story s) {
        s.refuses("no FIRM: numbers", NONE, x -> x.fact(0, 0, 0, 0), x -> x.known(0, 0, 0, 0),
                x -> x.work(0, 1, 0), x -> x.bench(0, 0, 0, 0), x -> x.log(0, 1, 1),
                x -> x.holds(0, 0, 3, 0), x -> x.points(0, 0, 0, 0, 0),
                x -> x.span(0, 0, 0, 0, 0, 0), x -> x.moves(0, 0, 0));
        s.refuses("no FIRM: coins", NO_COINS, x -> x.worth(0, 0), x -> x.line(0, 0, 0, 0),
                x -> x.revenue(0, 0, 0), x -> x.bills(0, 0, 0, 0), x -> x.home(0, 0, 0, 0),
                x -> x.tried(0, 0), x -> x.hole(0, 0, 0, 0), x -> x.borne(0, 0),
                x -> x.who(0, 0, 0, 0, 0));
        s.refuses("no FIRM: ALLOWED", -2_000_000_000, x -> x.allowed(0, 0, 0, 0));
        s.refuses("no FIRM: CHECKED", -2, x -> x.check(0, 0, 0));
    }

    private static void promise2() {
        Check.says("Promise 2", "TODAY becomes a later DAY: true");
        Story s = Story.world();
        s.answers("the next day", 1, x -> x.day(111) ? 1 : 0);
        s.answers("the last day", 1, x -> x.day(1499) ? 1 : 0);
        Story.of(s).day(111).answers("TODAY then", 111, x -> x.count(0));
        Story.of(s).day(1499).answers("TODAY at last", 1499, x -> x.count(0));
        Check.says("Promise 2", "false: it isn't, above 1,499.");
        s.refuses("no later one", 0, x -> x.day(110) ? 1 : 0, x -> x.day(109) ? 1 : 0,
                x -> x.day(0) ? 1 : 0, x -> x.day(-1) ? 1 : 0, x -> x.day(MIN) ? 1 : 0);
        s.refuses("above 1,499", 0, x -> x.day(1500) ? 1 : 0, x -> x.day(MAX) ? 1 : 0);
        Story last = Story.of(s).day(1499);
        last.refuses("on the last day", 0, x -> x.day(1499) ? 1 : 0, x -> x.day(1500) ? 1 : 0,
                x -> x.day(1498) ? 1 : 0);
    }

    private static void promise3() {
        Check.says("Promise 3", "A FIRM: its number.");
        Story s = new Story();
        for (int i = 0; i < 11; i++) {
            int number = i;
            s.answers("the next one", number, x -> x.firm(999999 - number));
            s.then(x -> x.firm(999999 - number));
        }
        for (int i = 0; i < 11; i++) {
            int number = i;
            s.answers("its WORTH", 999999 - number, x -> x.worth(number, 0));
        }
        Check.says("Promise 3", "NONE, doing nothing: not as told, 11 are there.");
        Story.world().bounds("firm", NONE, (x, a) -> x.firm(a[0]), new int[] {5},
                new int[] {0, 999999});
        s.refuses("11 are there", NONE, x -> x.firm(0), x -> x.firm(999999), x -> x.firm(-1));
    }

    private static void promise4() {
        Check.says("Promise 4", "A FACT: its number.");
        Story s = Story.ofFirms(5, 6);
        for (int i = 0; i < 17; i++) {
            int what = i;
            s.answers("the next one", what, x -> x.fact(what % 2, what % 15, what, 1));
            s.fact(what % 2, what % 15, what, 1);
        }
        s.answers("of the same again", 17, x -> x.fact(0, 0, 0, 1));
        Check.says("Promise 4", "NONE, doing nothing: not as told, 500 are there.");
        int[] mosts = {999, 99999, 99999, 9999, 9999};
        int[] whats = {2, 3, 10, 11, 16};
        for (int i = 0; i < whats.length; i++) {
            int what = whats[i];
            Story.world().bounds("fact of " + what, NONE,
                    (x, a) -> x.fact(a[0], a[1], what, a[2]), new int[] {0, 0, 5},
                    new int[] {0, 2}, new int[] {0, 14}, new int[] {0, mosts[i]});
        }
        Story.world().bounds("fact", NONE, (x, a) -> x.fact(0, 0, a[0], 1), new int[] {0},
                new int[] {0, 16});
        Story full = Story.ofFirms(5);
        for (int i = 0; i < 500; i++) {
            full.fact(0, 2, 3, i);
        }
        List<Questions.Question> few = List.of(
                new Questions.Question("facts", x -> x.count(2)),
                new Questions.Question("known", x -> x.known(0, 2, 3, 0)),
                new Questions.Question("known of others", x -> x.known(0, 2, 4, 0)),
                new Questions.Question("the next", x -> x.fact(0, 2, 4, 1)));
        full.answers("500 are there", NONE, x -> x.fact(0, 2, 4, 1));
        full.isAs("500 are there", Story.of(full).fact(0, 2, 4, 1).fact(0, 2, 3, 9), few);
    }

    private static void promise5() {
        Check.says("Promise 5", "What is KNOWN by a DAY.");
        Story s = Story.ofFirms(5).day(3).fact(0, 2, 3, 7).day(5).fact(0, 2, 3, 8);
        s.answers("by 3", 7, x -> x.known(0, 2, 3, 3));
        s.answers("by 4", 7, x -> x.known(0, 2, 3, 4));
        s.answers("by 5", 8, x -> x.known(0, 2, 3, 5));
        s.answers("by a day to come", 8, x -> x.known(0, 2, 3, 6));
        Check.says("Promise 5", "NONE: none, none such.");
        s.answers("none yet", NONE, x -> x.known(0, 2, 3, 2));
        s.answers("none of that year", NONE, x -> x.known(0, 3, 3, 5));
        s.answers("none of that kind", NONE, x -> x.known(0, 2, 10, 5));
        Story w = Story.world().fact(0, 0, 0, 1).fact(2, 0, 0, 1).fact(0, 14, 0, 1);
        w.fact(0, 0, 16, 1);
        Story all = Story.ofFirms(1, 2, 3).fact(0, 0, 0, 1).fact(2, 0, 0, 1).fact(0, 14, 0, 1);
        all.fact(0, 0, 16, 1);
        all.bounds("known", NONE, (x, a) -> x.known(a[0], a[1], a[2], a[3]),
                new int[] {0, 0, 0, 0}, new int[] {0, 2}, new int[] {0, 14}, new int[] {0, 16},
                new int[] {0, 1499});
        w.refuses("in the world", NONE, x -> x.known(3, 0, 0, 0), x -> x.known(0, 0, 17, 0));
    }

    private static void promise6() {
        Check.says("Promise 6", "A WORK: its number.");
        Story s = Story.ofFirms(5, 6);
        for (int i = 0; i < 40; i++) {
            int number = i;
            s.answers("the next one", number, x -> x.work(number % 2, 1, 14 - number % 15));
            s.work(number % 2, 1, 14 - number % 15);
        }
        Check.says("Promise 6", "NONE, doing nothing: not as told, 40 are there.");
        s.refuses("40 are there", NONE, x -> x.work(0, 1, 0), x -> x.work(1, 99999, 14));
        Story.world().bounds("work", NONE, (x, a) -> x.work(a[0], a[1], a[2]),
                new int[] {0, 5, 0}, new int[] {0, 2}, new int[] {1, 99999}, new int[] {0, 14});
    }

    private static void promise7() {
        Check.says("Promise 7", "It's DONE: true");
        Story s = Story.ofFirms(5);
        for (int i = 0; i < 40; i++) {
            s.work(0, i + 1, 0);
        }
        for (int i = 0; i < 40; i++) {
            int work = i;
            s.answers("work " + i, 1, x -> x.done(work) ? 1 : 0);
            Story.of(s).done(work).answers("its coins", 6 + work, x -> x.worth(0, 1));
        }
        Check.says("Promise 7", "false, doing nothing: none such, it is.");
        s.refuses("none such", 0, x -> x.done(40) ? 1 : 0, x -> x.done(-1) ? 1 : 0,
                x -> x.done(MIN) ? 1 : 0, x -> x.done(MAX) ? 1 : 0);
        Story w = Story.world();
        w.refuses("none such in the world", 0, x -> x.done(4) ? 1 : 0, x -> x.done(-1) ? 1 : 0);
        w.refuses("it is", 0, x -> x.done(1) ? 1 : 0);
        // Were it DONE once more on a later DAY, year 2 would have its coins, not year 1.
        Story.of(w).day(300).refuses("it is since long", 0, x -> x.done(1) ? 1 : 0);
    }

    private static void promise8() {
        Check.says("Promise 8", "A BENCH word (0 to 99,999): how many.");
        Story s = Story.ofFirms(5, 6);
        for (int i = 1; i <= 20; i++) {
            int word = i;
            s.answers("the next one", word, x -> x.bench(word % 2, word % 4, word % 15, 0));
            s.bench(word % 2, word % 4, word % 15, 0);
        }
        Check.says("Promise 8", "NONE, doing nothing: not as told, 20 are there.");
        s.refuses("20 are there", NONE, x -> x.bench(0, 0, 0, 5), x -> x.bench(1, 3, 14, 0));
        Story.world().bounds("bench", NONE, (x, a) -> x.bench(a[0], a[1], a[2], a[3]),
                new int[] {0, 0, 0, 5}, new int[] {0, 2}, new int[] {0, 3}, new int[] {0, 14},
                new int[] {0, 99999});
    }

    private static void promise9() {
        Check.says("Promise 9", "LOGGED: how many.");
        Story s = Story.ofFirms(5, 6);
        for (int i = 1; i <= 20; i++) {
            int coins = i;
            s.answers("the next one", coins, x -> x.log(coins % 2, 1 + coins % 14, 1));
            s.log(coins % 2, 1 + coins % 14, 1);
        }
        Check.says("Promise 9", "NONE, doing nothing: not as told, 20 are there.");
        s.refuses("20 are there", NONE, x -> x.log(0, 1, 5), x -> x.log(1, 14, 99999));
        // TODAY is 110 there: YEAR 2 is the first one later than TODAY's.
        Story.world().bounds("log", NONE, (x, a) -> x.log(a[0], a[1], a[2]),
                new int[] {0, 14, 5}, new int[] {0, 2}, new int[] {2, 14},
                new int[] {1, 99999});
    }

    private static void promise30() {
        Check.says("Promise 30", "TOLD LINE k (0 to 14; 0 at first): true");
        Story s = Story.ofFirms(0);
        s.answers("all are 0 at first, as the LINES", NONE, x -> x.check(0, 0, 0));
        for (int k = 0; k < 15; k++) {
            int line = k;
            s.answers("line " + k, 1, x -> x.tell(line, 5) ? 1 : 0);
            Story told = Story.of(s).then(x -> x.tell(line, 5) ? 1 : 0);
            told.answers("it is another one", line, x -> x.check(0, 0, 0));
            told.then(x -> x.tell(line, 0) ? 1 : 0);
            told.answers("it is 0 again", NONE, x -> x.check(0, 0, 0));
        }
        for (int v : new int[] {-1, 1, MIN, MAX}) {
            s.answers("any number", 1, x -> x.tell(3, v) ? 1 : 0);
            Story.of(s).then(x -> x.tell(3, v) ? 1 : 0).answers("told " + v, 3,
                    x -> x.check(0, 0, 0));
        }
        Check.says("Promise 30", "false: not as told.");
        Story.world().bounds("tell", 0, (x, a) -> x.tell(a[0], 77) ? 1 : 0, new int[] {5},
                new int[] {0, 14});
    }

    private static void promise34() {
        Check.says("Promise 34", "0 TODAY, 1 FIRMS, 2 FACTS, 3 WORKS, 4 DONE ones, 5 BENCH words,"
                + " 6 LOGGED, 7 RULES, 8 whether RULES are beside (1), 9 bytes on the tape,"
                + " 10 PUT BY.");
        long[] world = {110, 3, 47, 4, 1, 2, 2, 2, 1, 20, 2};
        for (int what = 0; what <= 10; what++) {
            int k = what;
            Story.world().answers("count " + k, world[k], x -> x.count(k));
            new Story().answers("count " + k + " of a new object", 0, x -> x.count(k));
        }
        countsAtMost();
        Check.says("Promise 34", "NONE for others.");
        Story.world().refuses("others", NONE, x -> x.count(-1), x -> x.count(11),
                x -> x.count(MIN), x -> x.count(MAX));
    }

    private static void countsAtMost() {
        Story s = new Story().day(1499);
        for (int i = 0; i < 20; i++) {
            s.then(x -> x.firm(5)).bench(0, 0, 0, 5).work(0, 5, 5).work(0, 5, 5).work(0, 5, 5);
            s.then(x -> x.rules(0, 0));
        }
        for (int work = 0; work < 42; work++) {
            s.done(work).done(work);
        }
        Story all = Story.ofFirms(5);
        for (int i = 0; i < 22; i++) {
            all.log(0, 14, 5);
        }
        for (int i = 0; i < 46; i++) {
            all.then(x -> x.feed(0, 0, 0, 0, 0));
        }
        s.beside("").then(x -> x.beside(0)).putBy().putBy().putBy().putBy().putBy();
        long[] due = {1499, 11, 0, 40, 40, 20, 0, 8, 1, 0, 4};
        for (int what = 0; what <= 10; what++) {
            int k = what;
            s.answers("count " + k + " at most", due[k], x -> x.count(k));
        }
        all.answers("LOGGED at most", 20, x -> x.count(6));
        all.answers("bytes at most", 900, x -> x.count(9));
    }
}
