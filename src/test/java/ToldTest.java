/** Promises 1 to 9 and 34: what is told, and how much of it there is. */
final class ToldTest {
    private ToldTest() {
    }

    public static void main(String[] args) {
        promise1NewObject();
        promise2Day();
        promise3Firm();
        promise4Fact();
        promise4FactsBounds();
        promise5Known();
        promise6Work();
        promise7Done();
        promise8Bench();
        promise9Log();
        promise34Count();
        objectsStandAlone();
        Check.end();
    }

    private static void promise1NewObject() {
        WaterReview x = new WaterReview();
        for (int what = 0; what <= 10; what++) {
            Check.due("new: count " + what, x.count(what), 0);
        }
        Check.due("new: fault", x.fault(), -1);
        for (int review = 0; review < 3; review++) {
            Check.due("new: review " + review, x.review(review, 0), -1);
        }
        Check.due("new: known", x.known(0, 0, 0, 0), -1);
        Check.due("new: worth", x.worth(0, 0), -2_000_000_000_000L);
        Check.due("new: putBy", x.putBy(), -1);
        Check.due("new: best", x.best(0, 99999), -1);
        Check.due("NONE", WaterReview.NONE, -1);
    }

    private static void promise2Day() {
        WaterReview x = new WaterReview();
        Check.due("day 0 is TODAY", x.day(0), false);
        Check.due("day -1", x.day(-1), false);
        Check.due("day 1", x.day(1), true);
        Check.due("TODAY", x.count(0), 1);
        Check.due("day 1 again", x.day(1), false);
        Check.due("day 1500", x.day(1500), false);
        Check.due("day of the largest int", x.day(Integer.MAX_VALUE), false);
        Check.due("TODAY is still", x.count(0), 1);
        Check.due("day 700", x.day(700), true);
        Check.due("day 699 is earlier", x.day(699), false);
        Check.due("day 1499", x.day(1499), true);
        Check.due("TODAY at last", x.count(0), 1499);
    }

    private static void promise3Firm() {
        WaterReview x = new WaterReview();
        Check.due("worth -1", x.firm(-1), -1);
        Check.due("worth 1,000,000", x.firm(1000000), -1);
        Check.due("no firm made", x.count(1), 0);
        Check.due("worth 0", x.firm(0), 0);
        Check.due("worth 999,999", x.firm(999999), 1);
        Check.due("worth of 0", x.worth(0, 0), 0);
        Check.due("worth of 1", x.worth(1, 0), 999999);
        for (int i = 2; i < 11; i++) {
            Check.due("firm " + i, x.firm(i), i);
        }
        Check.due("the twelfth", x.firm(5), -1);
        Check.due("eleven", x.count(1), 11);
        Check.due("worth of 10", x.worth(10, 0), 10);
    }

    private static void promise4Fact() {
        WaterReview x = new WaterReview();
        Check.due("no such firm yet", x.fact(0, 0, 0, 5), -1);
        x.firm(1);
        Check.due("first", x.fact(0, 0, 0, 5), 0);
        Check.due("second, the same again", x.fact(0, 0, 0, 5), 1);
        Check.due("firm 1", x.fact(1, 0, 0, 5), -1);
        Check.due("firm -1", x.fact(-1, 0, 0, 5), -1);
        Check.due("year -1", x.fact(0, -1, 0, 5), -1);
        Check.due("year 15", x.fact(0, 15, 0, 5), -1);
        Check.due("year 14", x.fact(0, 14, 0, 5), 2);
        Check.due("what -1", x.fact(0, 0, -1, 5), -1);
        Check.due("what 17", x.fact(0, 0, 17, 5), -1);
        Check.due("facts", x.count(2), 3);
        for (int i = 3; i < 500; i++) {
            Check.due("fact " + i, x.fact(0, i % 15, i % 17, i), i);
        }
        Check.due("the 501st", x.fact(0, 0, 0, 6), -1);
        Check.due("500", x.count(2), 500);
        Check.due("the 501st isn't known", x.known(0, 0, 0, 1499), 255);
    }

    private static void promise4FactsBounds() {
        WaterReview x = new WaterReview();
        x.firm(1);
        int told = 0;
        for (int what = 0; what < 17; what++) {
            int most = what < 3 ? 999 : what < 11 ? 99999 : 9999;
            Check.due("least of " + what, x.fact(0, 3, what, 0), told++);
            Check.due("below least of " + what, x.fact(0, 3, what, -1), -1);
            Check.due("beyond most of " + what, x.fact(0, 3, what, most + 1), -1);
            Check.due("known 0 of " + what, x.known(0, 3, what, 0), 0);
            Check.due("most of " + what, x.fact(0, 3, what, most), told++);
            Check.due("known most of " + what, x.known(0, 3, what, 0), most);
        }
        Check.due("facts", x.count(2), 34);
    }

    private static void promise5Known() {
        WaterReview x = new WaterReview();
        x.firm(1);
        x.firm(2);
        x.fact(0, 2, 3, 10);
        x.day(100);
        x.fact(0, 2, 3, 20);
        x.fact(0, 2, 3, 21);
        x.day(300);
        x.fact(0, 2, 3, 5);
        Check.due("known by 0", x.known(0, 2, 3, 0), 10);
        Check.due("known by 99", x.known(0, 2, 3, 99), 10);
        Check.due("known by 100: the last told", x.known(0, 2, 3, 100), 21);
        Check.due("known by 299", x.known(0, 2, 3, 299), 21);
        Check.due("known by 300", x.known(0, 2, 3, 300), 5);
        Check.due("known by a day to come", x.known(0, 2, 3, 1499), 5);
        Check.due("another year", x.known(0, 3, 3, 300), -1);
        Check.due("another firm", x.known(1, 2, 3, 300), -1);
        Check.due("another what", x.known(0, 2, 4, 300), -1);
        Check.due("no such firm", x.known(2, 2, 3, 300), -1);
        Check.due("firm -1", x.known(-1, 2, 3, 300), -1);
        Check.due("year -1", x.known(0, -1, 3, 300), -1);
        Check.due("year 15", x.known(0, 15, 3, 300), -1);
        Check.due("what -1", x.known(0, 2, -1, 300), -1);
        Check.due("what 17", x.known(0, 2, 17, 300), -1);
        Check.due("day -1", x.known(0, 2, 3, -1), -1);
        Check.due("day 1500", x.known(0, 2, 3, 1500), -1);
        x.fact(1, 4, 0, 7);
        Check.due("told today, by yesterday", x.known(1, 4, 0, 299), -1);
        Check.due("told today, by today", x.known(1, 4, 0, 300), 7);
    }

    private static void promise6Work() {
        WaterReview x = new WaterReview();
        Check.due("no firm", x.work(0, 5, 5), -1);
        x.firm(1);
        Check.due("coins 0", x.work(0, 0, 5), -1);
        Check.due("coins 100,000", x.work(0, 100000, 5), -1);
        Check.due("due -1", x.work(0, 5, -1), -1);
        Check.due("due 15", x.work(0, 5, 15), -1);
        Check.due("firm 1", x.work(1, 5, 5), -1);
        Check.due("firm -1", x.work(-1, 5, 5), -1);
        Check.due("none", x.count(3), 0);
        Check.due("coins 1", x.work(0, 1, 0), 0);
        Check.due("coins 99,999", x.work(0, 99999, 14), 1);
        x.day(900);
        Check.due("due in a year gone", x.work(0, 7, 3), 2);
        for (int i = 3; i < 40; i++) {
            Check.due("work " + i, x.work(0, 10, 1), i);
        }
        Check.due("the 41st", x.work(0, 10, 1), -1);
        Check.due("40", x.count(3), 40);
        Check.due("the works due in year 0", x.line(0, 0, 0, 5), 1);
        Check.due("the works due in year 1", x.line(0, 1, 0, 5), 370);
        Check.due("the works due in year 14", x.line(0, 14, 0, 5), 99999);
    }

    private static void promise7Done() {
        WaterReview x = new WaterReview();
        x.firm(1);
        Check.due("none such", x.done(0), false);
        x.work(0, 10, 1);
        x.work(0, 20, 1);
        Check.due("-1", x.done(-1), false);
        Check.due("2", x.done(2), false);
        x.day(150);
        Check.due("1", x.done(1), true);
        Check.due("done ones", x.count(4), 1);
        x.day(250);
        Check.due("1 again", x.done(1), false);
        Check.due("done ones still", x.count(4), 1);
        Check.due("its day is the first one told", x.worth(0, 2), 21);
        Check.due("0", x.done(0), true);
        Check.due("both done", x.count(4), 2);
        Check.due("worth behind both", x.worth(0, 3), 31);
        Check.due("40", x.done(40), false);
    }

    private static void promise8Bench() {
        WaterReview x = new WaterReview();
        Check.due("no firm", x.bench(0, 0, 0, 5), -1);
        x.firm(1);
        x.firm(1);
        Check.due("head -1", x.bench(0, -1, 0, 5), -1);
        Check.due("head 4", x.bench(0, 4, 0, 5), -1);
        Check.due("year -1", x.bench(0, 0, -1, 5), -1);
        Check.due("year 15", x.bench(0, 0, 15, 5), -1);
        Check.due("coins -1", x.bench(0, 0, 0, -1), -1);
        Check.due("coins 100,000", x.bench(0, 0, 0, 100000), -1);
        Check.due("firm 2", x.bench(2, 0, 0, 5), -1);
        Check.due("none yet", x.count(5), 0);
        Check.due("coins 99,999", x.bench(0, 3, 14, 99999), 1);
        Check.due("coins 0", x.bench(0, 3, 14, 0), 2);
        Check.due("the last one holds", x.allowed(0, 3, 14, 0), 0);
        x.day(50);
        Check.due("third", x.bench(0, 3, 14, 70), 3);
        Check.due("known from today", x.allowed(0, 3, 14, 50), 70);
        Check.due("by yesterday", x.allowed(0, 3, 14, 49), 0);
        Check.due("another head", x.allowed(0, 2, 14, 50), 0);
        Check.due("another year", x.allowed(0, 3, 13, 50), 0);
        Check.due("another firm", x.allowed(1, 3, 14, 50), 0);
        for (int i = 4; i <= 20; i++) {
            Check.due("word " + i, x.bench(1, 0, 0, i), i);
        }
        Check.due("the 21st", x.bench(1, 0, 0, 21), -1);
        Check.due("20", x.count(5), 20);
        Check.due("the 20th holds", x.allowed(1, 0, 0, 50), 20);
    }

    private static void promise9Log() {
        WaterReview x = new WaterReview();
        Check.due("no firm", x.log(0, 1, 5), -1);
        x.firm(1);
        x.firm(1);
        Check.due("today's year", x.log(0, 0, 5), -1);
        Check.due("year 15", x.log(0, 15, 5), -1);
        Check.due("coins 0", x.log(0, 1, 0), -1);
        Check.due("coins 100,000", x.log(0, 1, 100000), -1);
        Check.due("firm 2", x.log(2, 1, 5), -1);
        Check.due("next year", x.log(0, 1, 1), 1);
        x.day(99);
        Check.due("next year still", x.log(0, 1, 99999), 2);
        x.day(100);
        Check.due("this year now", x.log(0, 1, 5), -1);
        Check.due("year 2", x.log(0, 2, 5), 3);
        Check.due("a year gone", x.log(0, 0, 5), -1);
        Check.due("logged by day 98", x.line(0, 1, 98, 14), 1);
        Check.due("logged by day 99", x.line(0, 1, 99, 14), 100000);
        Check.due("of another firm", x.line(1, 1, 99, 14), 0);
        for (int i = 4; i <= 20; i++) {
            Check.due("log " + i, x.log(1, 14, 2), i);
        }
        Check.due("the 21st", x.log(1, 14, 2), -1);
        Check.due("20", x.count(6), 20);
        Check.due("all of year 14", x.line(1, 14, 100, 14), 34);
    }

    private static void promise34Count() {
        WaterReview x = new WaterReview();
        x.firm(5);
        x.firm(5);
        x.fact(0, 0, 0, 1);
        x.fact(0, 0, 0, 1);
        x.fact(0, 0, 0, 1);
        for (int i = 0; i < 4; i++) {
            x.work(0, 9, 1);
        }
        x.done(2);
        x.bench(0, 0, 0, 0);
        x.bench(0, 0, 0, 0);
        for (int i = 0; i < 6; i++) {
            x.log(0, 2, 1);
        }
        for (int i = 0; i < 7; i++) {
            x.rules(0, 0);
        }
        x.beside(0);
        x.putBy();
        x.putBy();
        x.putBy();
        x.feed(0, 0, 0, 0, 0);
        x.feed(0, 0, 0, 0, 0);
        x.day(77);
        int[] due = {77, 2, 3, 4, 1, 2, 6, 7, 1, 40, 3};
        for (int what = 0; what < due.length; what++) {
            Check.due("count " + what, x.count(what), due[what]);
        }
        Check.due("count -1", x.count(-1), -1);
        Check.due("count 11", x.count(11), -1);
        Check.due("count of the least int", x.count(Integer.MIN_VALUE), -1);
    }

    private static void objectsStandAlone() {
        WaterReview x = new WaterReview();
        WaterReview y = new WaterReview();
        x.firm(3);
        x.fact(0, 0, 0, 9);
        x.day(20);
        Check.due("firms of another object", y.count(1), 0);
        y.firm(4);
        Check.due("facts of another object", y.known(0, 0, 0, 0), -1);
        Check.due("worth of another object", y.worth(0, 0), 4);
        Check.due("today of another object", y.count(0), 0);
    }
}
