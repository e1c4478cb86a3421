import java.util.ArrayList;
import java.util.List;

/**
 * A row of calls that can be made on as many new objects as are wanted: what a call changes, or
 * leaves as it was, is seen by asking several objects that were told the same.
 */
final class Story {
    /** A call; a boolean counts 1 or 0. */
    interface Call {
        long on(WaterReview x);
    }

    /** A call by its arguments. */
    interface Ask {
        long on(WaterReview x, int[] a);
    }

    private static final int MOST_CALLS = 512;
    private final List<Call> calls = new ArrayList<>();

    /** A story goes on from another one, which stays as it is. */
    static Story of(Story other) {
        Story story = new Story();
        story.calls.addAll(other.calls);
        return story;
    }

    static Story ofFirms(int... worths) {
        Story story = new Story();
        for (int worth : worths) {
            story.then(x -> x.firm(worth));
        }
        return story;
    }

    /** The other story's calls are made behind those of this. */
    Story go(Story other) {
        calls.addAll(other.calls);
        return this;
    }

    Story then(Call call) {
        calls.add(call);
        return this;
    }

    Story day(int d) {
        return then(x -> x.day(d) ? 1 : 0);
    }

    Story fact(int firm, int year, int what, int v) {
        return then(x -> x.fact(firm, year, what, v));
    }

    /** A POINT: a DRIVER and a COST of a FIRM's YEAR. */
    Story point(int firm, int year, int driver, int itsX, int head, int cost) {
        return fact(firm, year, driver, itsX).fact(firm, year, 3 + head, cost);
    }

    Story work(int firm, int coins, int due) {
        return then(x -> x.work(firm, coins, due));
    }

    Story done(int work) {
        return then(x -> x.done(work) ? 1 : 0);
    }

    Story bench(int firm, int head, int year, int coins) {
        return then(x -> x.bench(firm, head, year, coins));
    }

    Story log(int firm, int year, int coins) {
        return then(x -> x.log(firm, year, coins));
    }

    /** Puts a text on the tape, blanks behind it up to a whole feed. */
    Story tape(String text) {
        for (int at = 0; at < text.length(); at += 20) {
            int from = at;
            then(x -> x.feed(Check.four(text, from), Check.four(text, from + 4),
                    Check.four(text, from + 8), Check.four(text, from + 12),
                    Check.four(text, from + 16)));
        }
        return this;
    }

    Story rules(int review, String text) {
        return tape(text).then(x -> x.rules(text.length(), review));
    }

    Story beside(String text) {
        return tape(text).then(x -> x.beside(text.length()));
    }

    Story putBy() {
        return then(x -> x.putBy());
    }

    /** A new object that was told all of it. */
    WaterReview told() {
        WaterReview x = new WaterReview();
        for (Call call : calls) {
            call.on(x);
        }
        return x;
    }

    private int callsLeft(int others) {
        int left = MOST_CALLS - calls.size() - others;
        if (left <= 0) {
            throw new IllegalStateException("a story of " + calls.size() + " calls is too long");
        }
        return left;
    }

    /** On a new object the call must answer so. */
    Story answers(String name, long due, Call call) {
        callsLeft(1);
        Check.due(name, call.on(told()), due);
        return this;
    }

    /** Each of the calls must answer so, and leave everything as it was. */
    Story refuses(String name, long due, Call... wrong) {
        WaterReview x = told();
        callsLeft(wrong.length);
        for (int i = 0; i < wrong.length; i++) {
            Check.due(name + ", call " + i, wrong[i].on(x), due);
        }
        Story other = of(this);
        for (Call call : wrong) {
            other.then(call);
        }
        isAs(name + ": what was left", other);
        return this;
    }

    /** Objects that were told the other story must answer whatever is asked as those of this. */
    Story isAs(String name, Story other) {
        return isAs(name, other, Questions.ALL);
    }

    Story isAs(String name, Story other, List<Questions.Question> questions) {
        int most = Math.min(callsLeft(0), other.callsLeft(0));
        WaterReview x = null;
        WaterReview y = null;
        for (int i = 0; i < questions.size(); i++) {
            if (i % most == 0) {
                x = told();
                y = other.told();
            }
            Questions.Question question = questions.get(i);
            Check.due(name + ", " + question.name(), question.call().on(y),
                    question.call().on(x));
        }
        return this;
    }

    /**
     * The call isn't refused at the least and the most of each argument; beyond them it is, and
     * leaves everything as it was. The other arguments are those of the base.
     */
    Story bounds(String name, long refusal, Ask ask, int[] base, int[]... leastAndMost) {
        List<Call> wrong = new ArrayList<>();
        for (int p = 0; p < base.length; p++) {
            int least = leastAndMost[p][0];
            int most = leastAndMost[p][1];
            isTaken(name, refusal, ask, with(base, p, least));
            isTaken(name, refusal, ask, with(base, p, most));
            for (long v : new long[] {least - 1L, most + 1L, Integer.MIN_VALUE,
                Integer.MAX_VALUE}) {
                int[] a = with(base, p, (int) v);
                if (v == (int) v && (v < least || v > most)) {
                    wrong.add(x -> ask.on(x, a));
                }
            }
        }
        return refuses(name + " beyond its bounds", refusal, wrong.toArray(new Call[0]));
    }

    private void isTaken(String name, long refusal, Ask ask, int[] a) {
        callsLeft(1);
        Check.isNot(name + java.util.Arrays.toString(a), ask.on(told(), a), refusal);
    }

    private static int[] with(int[] base, int place, int v) {
        int[] a = base.clone();
        a[place] = v;
        return a;
    }

    /** A story in which something is told of each kind, so that whatever is asked tells of it. */
    static Story world() {
        Story w = ofFirms(10000, 5000, 777);
        w.rules(0, "allow run plan 100;allow pipes mean 0 90;share run 50 40;share pipes 20 10;"
                + "target 0 more 10 step 2 coin 5 dead 1 cap 99;return 40;index 105;wear 5;"
                + "back 30;tilt 10;log 5 unless late>2;wear 6;");
        w.rules(1, "amend;strike 0;allow run line 0 100;allow power best 1 110;");
        for (int firm = 0; firm < 3; firm++) {
            for (int year = 0; year < 5; year += 2) {
                w.point(firm, year, 0, 10 + 7 * firm + 3 * year, 0, 300 + 41 * firm + 17 * year);
                w.fact(firm, year, 4, 200 + 90 * firm - 5 * year);
            }
            w.point(firm, 3, 1, 5 + firm, 2, 7000 + firm);
            w.fact(firm, 5, 8, 600 + firm);
        }
        w.fact(0, 0, 7, 280).fact(0, 1, 7, 310).fact(1, 2, 7, 333);
        w.fact(0, 0, 11, 9).fact(0, 0, 12, 4).fact(0, 5, 13, 6).fact(1, 2, 11, 5);
        w.fact(0, 0, 14, 17).fact(0, 1, 14, 3).fact(0, 2, 15, 8);
        w.work(0, 400, 0).work(0, 90, 1).work(1, 400, 0).work(0, 400, 1);
        w.day(50).fact(0, 0, 3, 350).bench(0, 0, 1, 120).bench(1, 1, 2, 70);
        w.log(0, 2, 60).log(0, 6, 30).day(110).done(1);
        w.then(x -> x.tell(4, 400) ? 1 : 0).then(x -> x.tell(14, 5) ? 1 : 0);
        w.beside("amend;return 60;").putBy().beside("share run 10 10;return 5;").putBy();
        w.rules(0, "log 5;lag");
        return w.tape("wear 3;return 7;   ;");
    }
}
