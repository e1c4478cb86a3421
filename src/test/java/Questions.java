import java.util.ArrayList;
import java.util.List;

/** Whatever can be asked of an object with up to three FIRMS, and what it answers when told more. */
final class Questions {
    record Question(String name, Story.Call call) { }

    static final List<Question> ALL = new ArrayList<>();
    private static int changeless;
    private static final int FIRMS = 3;
    private static final int[] YEARS = {0, 1, 2, 4, 5, 6, 9, 10, 14};

    private Questions() {
    }

    static {
        counts();
        for (int firm = 0; firm < FIRMS; firm++) {
            facts(firm);
            lines(firm);
            holds(firm);
            points(firm);
        }
        others();
        changeless = ALL.size();
        tellings();
    }

    /** Those that change nothing. */
    static List<Question> asked() {
        return ALL.subList(0, changeless);
    }

    private static void add(String name, Story.Call call) {
        ALL.add(new Question(name, call));
    }

    private static void counts() {
        for (int what = 0; what <= 10; what++) {
            int k = what;
            add("count " + k, x -> x.count(k));
        }
        add("fault", x -> x.fault());
        for (int review = 0; review < 3; review++) {
            for (int what = 0; what < 4; what++) {
                int r = review;
                int k = what;
                add("review " + r + " " + k, x -> x.review(r, k));
            }
        }
    }

    private static void facts(int firm) {
        for (int year = 0; year < 15; year++) {
            for (int what = 0; what < 17; what++) {
                int y = year;
                int k = what;
                add("known " + firm + " " + y + " " + k, x -> x.known(firm, y, k, 1499));
            }
        }
    }

    private static void lines(int firm) {
        for (int year : YEARS) {
            add("worth " + firm + " " + year, x -> x.worth(firm, year));
            add("revenue " + firm + " " + year, x -> x.revenue(firm, year, 1499));
            add("revenue by 0 " + firm + " " + year, x -> x.revenue(firm, year, 0));
            add("bills " + firm + " " + year, x -> x.bills(firm, year, 1499, 0));
            add("carried " + firm + " " + year, x -> x.bills(firm, year, 1499, 1));
            add("home " + firm + " " + year, x -> x.home(firm, year, 1499, 2));
            add("tried " + firm + " " + year, x -> x.tried(firm, year));
            add("check " + firm + " " + year, x -> x.check(firm, year, 1499));
            add("line 5 " + firm + " " + year, x -> x.line(firm, year, 1499, 5));
            add("line 6 " + firm + " " + year, x -> x.line(firm, year, 1499, 6));
            add("line 14 " + firm + " " + year, x -> x.line(firm, year, 1499, 14));
        }
    }

    private static void holds(int firm) {
        for (int year : YEARS) {
            for (int head = 0; head < 4; head++) {
                int h = head;
                add("allow " + firm + " " + year + " " + h, x -> x.holds(firm, year, 0, h));
                add("share " + firm + " " + year + " " + h, x -> x.holds(firm, year, 1, h));
                add("allowed " + firm + " " + year, x -> x.allowed(firm, h, year, 1499));
            }
            for (int kind = 3; kind < 9; kind++) {
                int k = kind;
                add("holds " + firm + " " + year + " " + k, x -> x.holds(firm, year, k, 0));
            }
            add("target " + firm + " " + year, x -> x.holds(firm, year, 2, 0));
        }
    }

    private static void points(int firm) {
        for (int head = 0; head < 4; head++) {
            int h = head;
            add("points " + firm + " " + h, x -> x.points(firm, h, 1, 0, 2));
            add("span " + firm + " " + h, x -> x.span(firm, h, 1, 0, 50, 2));
            add("moves " + firm + " " + h, x -> x.moves(firm, h, 1));
            add("hole " + firm + " " + h, x -> x.hole(firm, h, 0, 0));
        }
    }

    private static void others() {
        for (int k = 0; k < 3; k++) {
            int r = k;
            add("best " + r, x -> x.best(r, 99999));
            add("borne " + r, x -> x.borne(0, r));
            add("twice " + r, x -> x.twice(r, 0));
            add("twice with " + r, x -> x.twice(r, 1));
        }
        add("who", x -> x.who(0, 0, 1499, 1, 4));
    }

    /** What is told changes the object: all of it stands at the end. */
    private static void tellings() {
        add("feed", x -> x.feed(0x6c6f6720, 0x353b2020, 0x20202020, 0x20202020, 0x20202020));
        add("rules of the tape", x -> x.rules(7, 1));
        add("their place", x -> x.fault());
        add("their statements", x -> x.review(1, 1));
        add("the tape", x -> x.count(9));
        add("putBy", x -> x.putBy());
        add("beside", x -> x.beside(0));
        add("putBy again", x -> x.putBy());
        add("firm", x -> x.firm(4321));
        add("fact", x -> x.fact(0, 3, 16, 7));
        add("work", x -> x.work(0, 11, 3));
        add("bench", x -> x.bench(0, 3, 3, 12));
        add("log", x -> x.log(0, 14, 13));
        for (int work = 0; work < 4; work++) {
            int w = work;
            add("done " + w, x -> x.done(w) ? 1 : 0);
        }
        for (int k = 0; k < 15; k++) {
            int line = k;
            add("check of line " + line, x -> x.check(0, 0, 1499));
            add("told line " + line,
                    x -> x.tell(line, (int) x.line(0, 0, 1499, line)) ? 1 : 0);
        }
        add("a day later", x -> x.day(x.count(0) + 1) ? 1 : 0);
        add("TODAY then", x -> x.count(0));
    }
}
