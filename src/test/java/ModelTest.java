import java.util.ArrayList;
import java.util.Arrays;
import java.util.List;

/**
 * Runs of calls drawn by a fixed row of numbers, made on the class and on the Model: all answers
 * must be the same. With an argument: so many runs; with a second one: from that run on.
 */
final class ModelTest {
    private static final int MOST_CALLS = 512;
    private static final String[] QUERIES = {
        "known fyWd", "review rq", "holds fykg", "allowed fhyd", "points fhrvq", "worth fy",
        "line fydl", "revenue fyd", "bills fydo", "home fydq", "tried fy", "hole fhyt",
        "span fhrvxt", "moves fhr", "borne fr", "best rb", "check fyd", "twice to", "who fydtl",
        "count c", "fault "
    };
    private static final String[] WORDS = {"year", "firm", "homes", "worth", "late"};
    private static final String[] TOKENS = {
        "amend", "strike", "unless", "not", "and", "or", "(", ")", "<", ">", "=", ";", "allow",
        "share", "target", "return", "index", "wear", "back", "tilt", "log", "run", "pipes",
        "power", "other", "line", "mean", "best", "plan", "more", "less", "step", "coin", "dead",
        "cap", "year", "firm", "homes", "worth", "late", "0", "1", "2", "3", "50", "100", "101",
        "00200", "201", "501", "99999", "100000", "000001", "$", "A", "runs", "al"
    };

    private long state;
    private WaterReview x;
    private Model m;
    /** How large the numbers of a run are: 0 small, 1 of all sizes, 2 at their edges. */
    private int sizes;
    private int firms;
    /** How many of a hundred numbers asked by are none such. */
    private int wild;
    private String last = "";

    private ModelTest() {
    }

    public static void main(String[] args) {
        int runs = args.length > 0 ? Integer.parseInt(args[0]) : 300;
        int from = args.length > 1 ? Integer.parseInt(args[1]) : 0;
        ModelTest test = new ModelTest();
        for (int run = from; run < from + runs && Check.wrong() < 20; run++) {
            test.run(run);
        }
        Check.end();
    }

    private int below(int bound) {
        state = state * 6364136223846793005L + 1442695040888963407L;
        return (int) ((state >>> 33) % bound);
    }

    private boolean in(int hundred) {
        return below(100) < hundred;
    }

    private int number(int least, int most) {
        if (sizes == 0) {
            return Math.min(most, least + below(8));
        }
        if (sizes == 2 && in(60)) {
            return in(50) ? least : most;
        }
        return least + below(most - least + 1);
    }

    private void run(int run) {
        state = run * 7919L + 17;
        for (int i = 0; i < 9; i++) {
            below(2);
        }
        x = new WaterReview();
        m = new Model();
        sizes = below(3);
        wild = in(10) ? 25 : 2;
        firms = in(10) ? 11 : 1 + below(5);
        int calls = 0;
        for (int f = 0; f < firms; f++) {
            int worth = number(0, 999999);
            due(run, calls++, "firm " + worth, x.firm(worth), m.firm(worth));
        }
        int focus = below(3);
        int filled = 60 + below(200);
        while (calls < MOST_CALLS) {
            boolean wasWrong = Check.wrong() > 0;
            if (calls < filled && in(85)) {
                fact(run, calls++, focus);
            } else if (in(30)) {
                calls += tell(run, calls, focus);
            } else {
                ask(run, calls++);
            }
            if (!wasWrong && Check.wrong() > 0) {
                System.out.println("first wrong of run " + run + ", latest text: " + last);
            }
        }
    }

    private void due(int run, int call, String name, long got, long want) {
        if (Check.wrong() < 20) {
            Check.due("run " + run + ", call " + call + ": " + name, got, want);
        }
    }

    private void fact(int run, int call, int focus) {
        int firm = arg('f');
        int year = in(80) ? focus * 5 - 3 + below(10) : arg('y');
        int what = in(60) ? below(7) : arg('W');
        int most = what < 3 ? 999 : what < 11 ? 99999 : 9999;
        int v = in(2) ? most + 1 : in(2) ? -1 : number(0, most);
        due(run, call, "fact " + firm + " " + year + " " + what + " " + v,
                x.fact(firm, year, what, v), m.fact(firm, year, what, v));
    }

    /** Tells something else than a fact: how many calls it took. */
    private int tell(int run, int call, int focus) {
        int a = arg('f');
        int y = arg('y');
        int coins = in(3) ? 100000 : in(3) ? 0 : number(1, 99999);
        switch (below(11)) {
            case 0:
                int d = in(10) ? below(1600) - 50 : m.today + below(in(20) ? 300 : 60);
                d = in(25) ? (m.today / 100 + 1) * 100 : d;
                due(run, call, "day " + d, x.day(d) ? 1 : 0, m.day(d) ? 1 : 0);
                return 1;
            case 1:
            case 2:
                int few = in(50) ? 10 + below(2) : coins;
                due(run, call, "work " + a + " " + few + " " + y, x.work(a, few, y),
                        m.work(a, few, y));
                return 1;
            case 3:
                int w = in(5) ? -1 : below(m.works.size() + 1);
                due(run, call, "done " + w, x.done(w) ? 1 : 0, m.done(w) ? 1 : 0);
                return 1;
            case 4:
                int h = arg('h');
                due(run, call, "bench " + a + " " + h + " " + y + " " + coins,
                        x.bench(a, h, y, coins), m.bench(a, h, y, coins));
                return 1;
            case 5:
                due(run, call, "log " + a + " " + y + " " + coins, x.log(a, y, coins),
                        m.log(a, y, coins));
                return 1;
            case 6:
                int k = in(5) ? 15 : below(15);
                int v = in(50) ? (int) m.line(Math.max(0, Math.min(a, firms - 1)),
                        Math.max(0, Math.min(y, 14)), m.today, Math.min(k, 14)) : coins;
                due(run, call, "tell " + k + " " + v, x.tell(k, v) ? 1 : 0, m.tell(k, v) ? 1 : 0);
                return 1;
            case 7:
                due(run, call, "putBy", x.putBy(), m.putBy());
                return 1;
            default:
                return text(run, call, focus);
        }
    }

    private void ask(int run, int call) {
        String[] query = QUERIES[below(QUERIES.length)].split(" ", 2);
        int[] a = new int[6];
        for (int i = 0; i < query[1].length(); i++) {
            a[i] = arg(query[1].charAt(i));
        }
        due(run, call, query[0] + Arrays.toString(Arrays.copyOf(a, query[1].length())),
                ofClass(query[0], a), ofModel(query[0], a));
    }

    private int arg(char kind) {
        int most = switch (kind) {
            case 'f' -> firms - 1;
            case 'y', 'l' -> 14;
            case 'W' -> 16;
            case 'd' -> 1499;
            case 'h', 'q', 'g' -> 3;
            case 'r', 'v', 't' -> 2;
            case 'k' -> 8;
            case 'o' -> 1;
            case 'x' -> 999;
            case 'b' -> 99999;
            case 'c' -> 10;
            default -> throw new IllegalStateException();
        };
        if (in(wild)) {
            return in(50) ? -1 : in(50) ? most + 1 : in(50) ? Integer.MIN_VALUE
                    : Integer.MAX_VALUE;
        }
        if (kind == 'd' && in(60)) {
            return m.today;
        }
        if (kind == 'x' || kind == 'b') {
            return number(0, most);
        }
        return below(most + 1);
    }

    private long ofClass(String name, int[] a) {
        return switch (name) {
            case "known" -> x.known(a[0], a[1], a[2], a[3]);
            case "review" -> x.review(a[0], a[1]);
            case "holds" -> x.holds(a[0], a[1], a[2], a[3]);
            case "allowed" -> x.allowed(a[0], a[1], a[2], a[3]);
            case "points" -> x.points(a[0], a[1], a[2], a[3], a[4]);
            case "worth" -> x.worth(a[0], a[1]);
            case "line" -> x.line(a[0], a[1], a[2], a[3]);
            case "revenue" -> x.revenue(a[0], a[1], a[2]);
            case "bills" -> x.bills(a[0], a[1], a[2], a[3]);
            case "home" -> x.home(a[0], a[1], a[2], a[3]);
            case "tried" -> x.tried(a[0], a[1]);
            case "hole" -> x.hole(a[0], a[1], a[2], a[3]);
            case "span" -> x.span(a[0], a[1], a[2], a[3], a[4], a[5]);
            case "moves" -> x.moves(a[0], a[1], a[2]);
            case "borne" -> x.borne(a[0], a[1]);
            case "best" -> x.best(a[0], a[1]);
            case "check" -> x.check(a[0], a[1], a[2]);
            case "twice" -> x.twice(a[0], a[1]);
            case "who" -> x.who(a[0], a[1], a[2], a[3], a[4]);
            case "count" -> x.count(a[0]);
            case "fault" -> x.fault();
            default -> throw new IllegalStateException(name);
        };
    }

    private long ofModel(String name, int[] a) {
        return switch (name) {
            case "known" -> m.known(a[0], a[1], a[2], a[3]);
            case "review" -> m.review(a[0], a[1]);
            case "holds" -> m.holds(a[0], a[1], a[2], a[3]);
            case "allowed" -> m.allowed(a[0], a[1], a[2], a[3]);
            case "points" -> m.points(a[0], a[1], a[2], a[3], a[4]);
            case "worth" -> m.worth(a[0], a[1]);
            case "line" -> m.line(a[0], a[1], a[2], a[3]);
            case "revenue" -> m.revenue(a[0], a[1], a[2]);
            case "bills" -> m.bills(a[0], a[1], a[2], a[3]);
            case "home" -> m.home(a[0], a[1], a[2], a[3]);
            case "tried" -> m.tried(a[0], a[1]);
            case "hole" -> m.hole(a[0], a[1], a[2], a[3]);
            case "span" -> m.span(a[0], a[1], a[2], a[3], a[4], a[5]);
            case "moves" -> m.moves(a[0], a[1], a[2]);
            case "borne" -> m.borne(a[0], a[1]);
            case "best" -> m.best(a[0], a[1]);
            case "check" -> m.check(a[0], a[1], a[2]);
            case "twice" -> m.twice(a[0], a[1]);
            case "who" -> m.who(a[0], a[1], a[2], a[3], a[4]);
            case "count" -> m.count(a[0]);
            case "fault" -> m.fault();
            default -> throw new IllegalStateException(name);
        };
    }

    // ---- texts

    /** Feeds a text and tells it as RULES or RULES BESIDE: how many calls it took. */
    private int text(int run, int call, int focus) {
        int left = MOST_CALLS - call - 2;
        if (left < 0) {
            ask(run, call);
            return 1;
        }
        List<String> tokens = new ArrayList<>();
        boolean amends = in(30);
        if (amends) {
            tokens.addAll(List.of("amend", ";"));
        }
        int most = in(6) ? 29 + below(4) : 1 + below(10);
        for (int i = 0; i < most; i++) {
            if (amends && in(25)) {
                tokens.add("strike");
                tokens.add("" + below(8));
            } else {
                statement(tokens);
            }
            tokens.add(";");
        }
        if (in(25)) {
            spoil(tokens);
        }
        String text = joined(tokens);
        if (in(4) && !text.isEmpty()) {
            int at = below(text.length());
            text = text.substring(0, at) + (char) below(256) + text.substring(at + 1);
        }
        text = text.substring(0, Math.min(text.length(), Math.min(900, 20 * left)));
        last = text;
        int calls = 0;
        for (int at = 0; at < text.length(); at += 20) {
            int[] n = new int[5];
            for (int i = 0; i < 5; i++) {
                n[i] = Check.four(text, at + 4 * i);
            }
            due(run, call + calls, "feed", x.feed(n[0], n[1], n[2], n[3], n[4]), m.feed(n));
            calls++;
        }
        int n = in(3) ? below(text.length() + 30) - 5 : text.length();
        if (in(60)) {
            int review = in(3) ? below(5) - 1 : in(70) ? focus : below(3);
            due(run, call + calls, "rules " + n + " " + review + " of " + text,
                    x.rules(n, review), m.rules(n, review));
        } else {
            due(run, call + calls, "beside " + n + " of " + text, x.beside(n), m.beside(n));
        }
        due(run, call + calls + 1, "fault of " + text, x.fault(), m.fault());
        return calls + 2;
    }

    private void spoil(List<String> tokens) {
        int at = below(tokens.size());
        String other = TOKENS[below(TOKENS.length)];
        switch (below(4)) {
            case 0:
                tokens.remove(at);
                break;
            case 1:
                tokens.add(at, other);
                break;
            case 2:
                tokens.subList(at, tokens.size()).clear();
                break;
            default:
                tokens.set(at, other);
                break;
        }
    }

    private String joined(List<String> tokens) {
        StringBuilder text = new StringBuilder();
        for (String token : tokens) {
            boolean touch = text.length() > 0 && Character.isLetterOrDigit(token.charAt(0))
                    && Character.isLetterOrDigit(text.charAt(text.length() - 1));
            if (touch && !in(20) || in(20)) {
                text.append(in(90) ? ' ' : '\n');
            }
            text.append(token);
        }
        return text.toString();
    }

    private void statement(List<String> tokens) {
        String kind = TOKENS[12 + (in(55) ? below(3) : below(9))];
        tokens.add(kind);
        switch (kind) {
            case "allow":
                tokens.add(TOKENS[21 + below(4)]);
                String mode = TOKENS[25 + below(4)];
                tokens.add(mode);
                if (!mode.equals("plan")) {
                    tokens.add("" + below(3));
                }
                tokens.add("" + (in(50) ? 100 : number(0, 200)));
                break;
            case "share":
                tokens.add(TOKENS[21 + below(4)]);
                tokens.add("" + below(101));
                tokens.add("" + below(101));
                break;
            case "target":
                tokens.add("" + below(3));
                tokens.add(in(50) ? "more" : "less");
                tokens.add("" + number(0, in(90) ? 9999 : 99999));
                tokens.addAll(List.of("step", "" + number(1, 99)));
                tokens.addAll(List.of("coin", "" + number(0, 99999)));
                tokens.addAll(List.of("dead", "" + number(0, 99)));
                tokens.addAll(List.of("cap", "" + number(0, 99999)));
                break;
            case "return":
                tokens.add("" + below(501));
                break;
            case "index":
                tokens.add("" + (50 + below(101)));
                break;
            default:
                tokens.add("" + below(101));
                break;
        }
        if (in(35)) {
            tokens.add("unless");
            any(tokens, in(5) ? 9 + below(3) : 1 + below(3));
        }
    }

    private void any(List<String> tokens, int deep) {
        one(tokens, deep);
        while (in(30)) {
            tokens.add(in(50) ? "or" : "and");
            one(tokens, below(2));
        }
    }

    private void one(List<String> tokens, int deep) {
        if (deep > 0 && (deep > 5 || in(40))) {
            if (in(50)) {
                tokens.add("not");
                one(tokens, deep - 1);
            } else {
                tokens.add("(");
                any(tokens, deep - 1);
                tokens.add(")");
            }
            return;
        }
        int word = below(5);
        tokens.add(WORDS[word]);
        tokens.add(TOKENS[8 + below(3)]);
        int most = word == 0 ? 14 : word == 1 ? firms : word == 4 ? 3 : 99999;
        tokens.add("" + (most < 20 ? below(most + 1) : number(0, most)));
    }
}
