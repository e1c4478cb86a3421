import java.util.ArrayList;
import java.util.HashMap;
import java.util.List;
import java.util.Map;
import java.util.TreeSet;

/**
 * The document told a second time, as plainly and slowly as it goes: lists that are searched from
 * end to end, nothing kept between calls. ModelTest compares the class with it.
 */
final class Model {
    static final int NONE = -1;
    static final long NO_COINS = -2_000_000_000_000L;

    record Fact(int firm, int year, int what, int v, int day) { }

    record Note(int firm, int head, int year, int coins, int day) { }

    static final class Work {
        int firm;
        int coins;
        int due;
        int done = NONE;
    }

    /** A test behind "unless". */
    interface Test {
        boolean holds(View view, int firm, int year);
    }

    /** A statement; its key is its kind and its HEAD or OUTPUT. */
    static final class Statement {
        String kind;
        int of;
        String mode = "";
        List<Integer> numbers = new ArrayList<>();
        Test unless;

        String key() {
            return kind + of;
        }
    }

    record Book(int from, int day, List<Statement> statements) { }

    /** Ends the reading of a text. */
    static final class Fault extends RuntimeException {
        private static final long serialVersionUID = 1L;
        final int place;

        Fault(int place) {
            this.place = place;
        }
    }

    int today = 0;
    final List<Integer> worths = new ArrayList<>();
    final List<Fact> facts = new ArrayList<>();
    final List<Work> works = new ArrayList<>();
    final List<Note> bench = new ArrayList<>();
    final List<Note> logged = new ArrayList<>();
    final List<Integer> tape = new ArrayList<>();
    final List<Book> taken = new ArrayList<>();
    Book beside = null;
    final List<Book> putBy = new ArrayList<>();
    int fault = NONE;
    final long[] told = new long[15];

    // ---- what is told

    boolean day(int d) {
        if (d > 1499 || d <= today) {
            return false;
        }
        today = d;
        return true;
    }

    int firm(int worth) {
        if (worth < 0 || worth > 999999 || worths.size() == 11) {
            return NONE;
        }
        worths.add(worth);
        return worths.size() - 1;
    }

    private boolean none(int firm, int year) {
        return firm < 0 || firm >= worths.size() || year < 0 || year > 14;
    }

    private static boolean noDay(int day) {
        return day < 0 || day > 1499;
    }

    int fact(int firm, int year, int what, int v) {
        if (none(firm, year) || what < 0 || what > 16 || facts.size() == 500) {
            return NONE;
        }
        int most = what <= 2 ? 999 : what <= 10 ? 99999 : 9999;
        if (v < 0 || v > most) {
            return NONE;
        }
        facts.add(new Fact(firm, year, what, v, today));
        return facts.size() - 1;
    }

    int known(int firm, int year, int what, int day) {
        if (none(firm, year) || what < 0 || what > 16 || noDay(day)) {
            return NONE;
        }
        return get(firm, year, what, day);
    }

    int get(int firm, int year, int what, int day) {
        int v = NONE;
        for (Fact f : facts) {
            if (f.firm == firm && f.year == year && f.what == what && f.day <= day) {
                v = f.v;
            }
        }
        return v;
    }

    int work(int firm, int coins, int due) {
        if (none(firm, due) || coins < 1 || coins > 99999 || works.size() == 40) {
            return NONE;
        }
        Work w = new Work();
        w.firm = firm;
        w.coins = coins;
        w.due = due;
        works.add(w);
        return works.size() - 1;
    }

    boolean done(int work) {
        if (work < 0 || work >= works.size() || works.get(work).done != NONE) {
            return false;
        }
        works.get(work).done = today;
        return true;
    }

    int bench(int firm, int head, int year, int coins) {
        if (none(firm, year) || head < 0 || head > 3 || coins < 0 || coins > 99999
                || bench.size() == 20) {
            return NONE;
        }
        bench.add(new Note(firm, head, year, coins, today));
        return bench.size();
    }

    int log(int firm, int year, int coins) {
        if (none(firm, year) || year <= today / 100 || coins < 1 || coins > 99999
                || logged.size() == 20) {
            return NONE;
        }
        logged.add(new Note(firm, 0, year, coins, today));
        return logged.size();
    }

    int feed(int... numbers) {
        if (tape.size() + 20 > 900) {
            return NONE;
        }
        for (int n : numbers) {
            for (int shift = 24; shift >= 0; shift -= 8) {
                tape.add(n >> shift & 255);
            }
        }
        return tape.size();
    }

    // ---- RULES

    int rules(int n, int review) {
        if (n < 0 || n > tape.size() || review < 0 || review > 2) {
            return -2;
        }
        if (taken.size() == 8) {
            return -3;
        }
        List<Statement> read = read(n, review);
        if (read == null) {
            return NONE;
        }
        taken.add(new Book(review, today, read));
        return taken.size() - 1;
    }

    int beside(int n) {
        if (n < 0 || n > tape.size()) {
            return -2;
        }
        List<Statement> read = read(n, today / 100 / 5);
        beside = read == null ? null : new Book(0, today, read);
        return read == null ? NONE : 0;
    }

    int fault() {
        return fault;
    }

    private List<Statement> read(int n, int review) {
        StringBuilder text = new StringBuilder();
        for (int b : tape.subList(0, n)) {
            text.append((char) b);
        }
        tape.clear();
        Book base = of(review, today);
        try {
            fault = NONE;
            return new Text(text.toString(), base == null ? List.of() : base.statements).read();
        } catch (Fault f) {
            fault = f.place;
            return null;
        }
    }

    /** The RULES of a REVIEW decided on a day. */
    Book of(int review, int day) {
        Book found = null;
        for (int from = 0; from <= review; from++) {
            for (Book b : taken) {
                if (b.from == from && b.day <= day) {
                    found = found == null || b.from > found.from || b.from == from ? b : found;
                }
            }
        }
        return found;
    }

    /** A text, cut into tokens first. */
    static final class Text {
        final List<String> tokens = new ArrayList<>();
        final List<Integer> places = new ArrayList<>();
        final List<Statement> base;
        int at = 0;

        Text(String text, List<Statement> base) {
            this.base = base;
            int i = 0;
            while (i < text.length()) {
                char c = text.charAt(i);
                int from = i++;
                if (c == ' ' || c == '\n') {
                    continue;
                }
                String like = Character.toString(c);
                String all = like.matches("[a-z]") ? "[a-z]+" : like.matches("[0-9]") ? "[0-9]+"
                        : ".";
                while (!all.equals(".") && i < text.length()
                        && text.substring(from, i + 1).matches(all)) {
                    i++;
                }
                tokens.add(text.substring(from, i));
                places.add(from);
            }
            tokens.add("");
            places.add(text.length());
        }

        Fault wrong() {
            return new Fault(places.get(at));
        }

        String token() {
            return tokens.get(at);
        }

        boolean is(String... words) {
            for (String w : words) {
                if (w.equals(token())) {
                    return true;
                }
            }
            return false;
        }

        String take(String... words) {
            if (!is(words)) {
                throw wrong();
            }
            return tokens.get(at++);
        }

        int number(int least, int most) {
            if (!token().matches("[0-9]{1,5}") || Integer.parseInt(token()) < least
                    || Integer.parseInt(token()) > most) {
                throw wrong();
            }
            return Integer.parseInt(tokens.get(at++));
        }

        List<Statement> read() {
            TreeSet<Integer> struck = new TreeSet<>();
            List<Statement> own = new ArrayList<>();
            boolean amends = is("amend");
            if (amends) {
                take("amend");
                take(";");
            }
            int count = 0;
            while (!is("")) {
                count++;
                if (count == 31) {
                    throw wrong();
                }
                if (amends && is("strike")) {
                    take("strike");
                    int before = at;
                    int place = number(0, 99999);
                    if (place >= base.size() || !struck.add(place)) {
                        at = before;
                        throw wrong();
                    }
                } else {
                    own.add(statement());
                }
                take(";");
            }
            List<Statement> all = new ArrayList<>();
            for (int i = 0; amends && i < base.size(); i++) {
                if (!struck.contains(i)) {
                    all.add(base.get(i));
                }
            }
            all.addAll(own);
            return all;
        }

        int head() {
            String h = take("run", "pipes", "power", "other");
            return List.of("run", "pipes", "power", "other").indexOf(h);
        }

        Statement statement() {
            Statement s = new Statement();
            s.kind = take("allow", "share", "target", "return", "index", "wear", "back", "tilt",
                    "log");
            switch (s.kind) {
                case "allow" -> {
                    s.of = head();
                    s.mode = take("line", "mean", "best", "plan");
                    if (!s.mode.equals("plan")) {
                        s.numbers.add(number(0, 2));
                    }
                    s.numbers.add(number(0, 200));
                }
                case "share" -> {
                    s.of = head();
                    s.numbers.add(number(0, 100));
                    s.numbers.add(number(0, 100));
                }
                case "target" -> {
                    s.of = number(0, 2);
                    s.mode = take("more", "less");
                    s.numbers.add(number(0, 99999));
                    for (String w : List.of("step", "coin", "dead", "cap")) {
                        take(w);
                        s.numbers.add(number(w.equals("step") ? 1 : 0, 99999));
                    }
                }
                case "return" -> s.numbers.add(number(0, 500));
                case "index" -> s.numbers.add(number(50, 150));
                default -> s.numbers.add(number(0, 100));
            }
            if (is("unless")) {
                take("unless");
                s.unless = any(0);
            }
            return s;
        }

        Test any(int open) {
            Test first = all(open);
            if (!is("or")) {
                return first;
            }
            take("or");
            Test rest = any(open);
            return (v, f, y) -> first.holds(v, f, y) || rest.holds(v, f, y);
        }

        Test all(int open) {
            Test first = one(open);
            if (!is("and")) {
                return first;
            }
            take("and");
            Test rest = all(open);
            return (v, f, y) -> first.holds(v, f, y) && rest.holds(v, f, y);
        }

        Test one(int open) {
            if (is("not", "(") && open == 10) {
                throw wrong();
            }
            if (is("not")) {
                take("not");
                Test inner = one(open + 1);
                return (v, f, y) -> !inner.holds(v, f, y);
            }
            if (is("(")) {
                take("(");
                Test inner = any(open + 1);
                take(")");
                return inner;
            }
            String word = take("year", "firm", "homes", "worth", "late");
            String sign = take("<", ">", "=");
            int number = number(0, 99999);
            return (v, f, y) -> {
                long w = v.word(word, f, y);
                return sign.equals("<") ? w < number : sign.equals(">") ? w > number : w == number;
            };
        }
    }

    int review(int review, int what) {
        Book book = review < 0 || review > 2 ? null : of(review, 500 * review);
        if (book == null || what < 0 || what > 3) {
            return NONE;
        }
        for (int i = 0; what == 0; i++) {
            if (taken.get(i) == book) {
                return i;
            }
        }
        if (what == 1) {
            return book.statements.size();
        }
        for (int i = 0; i < book.statements.size(); i++) {
            for (int j = i + 1; j < book.statements.size(); j++) {
                Statement a = book.statements.get(i);
                Statement b = book.statements.get(j);
                if (a.unless == null && b.unless == null && a.key().equals(b.key())) {
                    return what == 2 ? i : j;
                }
            }
        }
        return NONE;
    }

    // ---- what follows

    View own(int day) {
        return new View(new Book[] {of(0, 0), of(1, 500), of(2, 1000)}, day);
    }

    View with(int review, Book book, int day) {
        View view = own(day);
        view.books[review] = book;
        return view;
    }

    /** All by given RULES, as KNOWN by a DAY. */
    final class View {
        final Book[] books;
        final int day;
        final Map<Integer, Long> worthsSoFar = new HashMap<>();

        View(Book[] books, int day) {
            this.books = books;
            this.day = day;
        }

        long word(String word, int firm, int year) {
            switch (word) {
                case "year":
                    return year;
                case "firm":
                    return firm;
                case "worth":
                    return worth(firm, year);
                case "late":
                    return works.stream().filter(w -> late(w, firm, year)).count();
                default:
                    return homes(firm, year);
            }
        }

        long homes(int firm, int year) {
            for (int y = year; y >= 0; y--) {
                int all = 0;
                boolean any = false;
                for (int what = 11; what <= 13; what++) {
                    int v = get(firm, y, what, year / 5 * 500);
                    if (v != NONE) {
                        any = true;
                        all += v;
                    }
                }
                if (any) {
                    return all;
                }
            }
            return 0;
        }

        boolean late(Work w, int firm, int year) {
            boolean doneByThen = w.done != NONE && w.done < 100 * year;
            return w.firm == firm && w.due < year && !doneByThen;
        }

        int place(int firm, int year, String kind, int of) {
            Book book = books[year / 5];
            int found = NONE;
            for (int i = 0; book != null && i < book.statements.size(); i++) {
                Statement s = book.statements.get(i);
                if (s.kind.equals(kind) && s.of == of
                        && (s.unless == null || !s.unless.holds(this, firm, year))) {
                    found = i;
                }
            }
            return found;
        }

        Statement rule(int firm, int year, String kind, int of) {
            int place = place(firm, year, kind, of);
            return place == NONE ? null : books[year / 5].statements.get(place);
        }

        long number(int firm, int year, String kind, int without) {
            Statement s = rule(firm, year, kind, 0);
            return s == null ? without : s.numbers.get(0);
        }

        long worth(int firm, int year) {
            if (year == 0) {
                return worths.get(firm);
            }
            int key = firm * 100 + year;
            if (!worthsSoFar.containsKey(key)) {
                int y = year - 1;
                long before = worth(firm, y);
                long now = before * number(firm, y, "index", 100) / 100;
                for (Work w : works) {
                    if (w.firm == firm && w.done >= 100 * y && w.done < 100 * year) {
                        now += w.coins;
                    }
                }
                worthsSoFar.put(key, now - before * number(firm, y, "wear", 0) / 100);
            }
            return worthsSoFar.get(key);
        }

        long allowed(int firm, int head, int year) {
            long said = NONE;
            for (Note b : bench) {
                if (b.firm == firm && b.head == head && b.year == year && b.day <= day) {
                    said = b.coins;
                }
            }
            if (said != NONE) {
                return said;
            }
            Statement s = rule(firm, year, "allow", head);
            if (s == null) {
                return 0;
            }
            int decided = year / 5 * 500;
            if (s.mode.equals("plan")) {
                return Math.max(0, get(firm, year, 7 + head, decided)) * s.numbers.get(0) / 100;
            }
            int driver = s.numbers.get(0);
            long x = 0;
            for (int y = 0; y <= year; y++) {
                int v = get(firm, y, driver, decided);
                x = v == NONE ? x : v;
            }
            List<long[]> points = points(firm, head, year / 5, driver);
            return tells(s.mode, points, x) * s.numbers.get(1) / 100;
        }

        long borne(int firm, int review) {
            long all = 0;
            for (int y = 5 * review; y < 5 * review + 5; y++) {
                for (int head = 0; head < 4; head++) {
                    int cost = get(firm, y, 3 + head, day);
                    if (cost != NONE) {
                        all -= kept(firm, head, y, cost - allowed(firm, head, y));
                    }
                }
            }
            return all;
        }

        /** What the firm keeps (below 0: bears) of OTHER. */
        long kept(int firm, int head, int year, long other) {
            Statement s = rule(firm, year, "share", head);
            if (s == null) {
                return 0;
            }
            return other > 0 ? -(other * s.numbers.get(0) / 100)
                    : -other * s.numbers.get(1) / 100;
        }

        long shared(int firm, int head, int year) {
            int cost = get(firm, year, 3 + head, day);
            if (cost == NONE) {
                return 0;
            }
            long other = cost - allowed(firm, head, year);
            return other + kept(firm, head, year, other);
        }

        long earned(int firm, int output, int year) {
            Statement s = rule(firm, year, "target", output);
            int v = get(firm, year, 14 + output, day);
            if (s == null || v == NONE) {
                return 0;
            }
            long by = s.mode.equals("more") ? v - s.numbers.get(0) : s.numbers.get(0) - v;
            long size = Math.max(0, Math.abs(by) - s.numbers.get(3));
            long coins = size / s.numbers.get(1) * s.numbers.get(2);
            coins = Math.min(coins, s.numbers.get(4));
            return by < 0 ? -coins : coins;
        }

        long back(Work w, int firm, int year) {
            if (!late(w, firm, year)) {
                return 0;
            }
            long ahead = 0;
            for (int y = 0; y < year; y++) {
                ahead += back(w, firm, y);
            }
            return Math.min(w.coins * number(firm, year, "back", 0) / 100, w.coins - ahead);
        }

        long line(int firm, int year, int k) {
            if (k <= 3) {
                return allowed(firm, k, year);
            }
            if (k == 4) {
                return worth(firm, year) * number(firm, year, "return", 0) / 1000;
            }
            if (k == 5) {
                return works.stream().filter(w -> w.firm == firm && w.due == year)
                        .mapToLong(w -> w.coins).sum();
            }
            if (k == 6) {
                return -works.stream().mapToLong(w -> back(w, firm, year)).sum();
            }
            if (k <= 9) {
                return year == 0 ? 0 : earned(firm, k - 7, year - 1);
            }
            if (k <= 13) {
                return year == 0 ? 0 : shared(firm, k - 10, year - 1);
            }
            long all = logged.stream().filter(n -> n.firm == firm && n.year == year && n.day <= day)
                    .mapToLong(n -> n.coins).sum();
            long allowed = 0;
            for (int head = 0; head < 4; head++) {
                allowed += allowed(firm, head, year);
            }
            return all >= allowed * number(firm, year, "log", 0) / 100 ? all : 0;
        }

        long revenue(int firm, int year) {
            long all = 0;
            for (int k = 0; k < 15; k++) {
                all += line(firm, year, k);
            }
            return all;
        }

        /** BILLS and what is carried on. */
        long[] bills(int firm, int year) {
            if (year % 5 == 0) {
                return new long[] {revenue(firm, year), 0};
            }
            long[] ahead = bills(firm, year - 1);
            long all = revenue(firm, year) + ahead[1];
            long tilt = number(firm, year, "tilt", NONE);
            long bills = all;
            if (tilt != NONE && year % 5 != 4) {
                bills = Math.min(bills, ahead[0] * (100 + tilt) / 100);
                bills = Math.max(bills, ahead[0] * (100 - tilt) / 100);
            }
            return new long[] {bills, all - bills};
        }

        long parts(int firm, int year) {
            return 2L * Math.max(0, get(firm, year, 11, day))
                    + 3L * Math.max(0, get(firm, year, 12, day))
                    + 5L * Math.max(0, get(firm, year, 13, day));
        }

        long pays(int firm, int year, int kind, long coins) {
            long parts = parts(firm, year);
            return parts == 0 ? 0 : coins * (kind == 0 ? 2 : kind == 1 ? 3 : 5) / parts;
        }

        long left(int firm, int year, long coins) {
            for (int kind = 0; kind < 3; kind++) {
                coins -= pays(firm, year, kind, bills(firm, year)[0])
                        * Math.max(0, get(firm, year, 11 + kind, day));
            }
            return coins;
        }
    }

    /** POINTS: each its DRIVER, COST and FIRM. */
    List<long[]> points(int firm, int head, int review, int driver) {
        List<long[]> points = new ArrayList<>();
        for (int f = 0; f < worths.size(); f++) {
            for (int y = 5 * review - 5; y < 5 * review; y++) {
                int x = get(f, y, driver, 500 * review);
                int c = get(f, y, 3 + head, 500 * review);
                if (f != firm && x != NONE && c != NONE) {
                    points.add(new long[] {x, c, f});
                }
            }
        }
        return points;
    }

    private static long sum(List<long[]> points, int a, int b) {
        long all = 0;
        for (long[] p : points) {
            all += (a < 0 ? 1 : p[a]) * (b < 0 ? 1 : p[b]);
        }
        return all;
    }

    static long tells(String mode, List<long[]> points, long bigX) {
        long n = points.size();
        long x = sum(points, 0, NONE);
        long y = sum(points, 1, NONE);
        long d = n * sum(points, 0, 0) - x * x;
        long tells = 0;
        if (mode.equals("best")) {
            long[] best = null;
            for (long[] p : points) {
                if (p[0] > 0 && (best == null || p[1] * best[0] < best[1] * p[0])) {
                    best = p;
                }
            }
            tells = best == null ? 0 : best[1] * bigX / best[0];
        } else if (mode.equals("mean") || d == 0) {
            tells = x == 0 ? 0 : y * bigX / x;
        } else {
            long xy = sum(points, 0, 1);
            long over = Math.addExact(Math.multiplyExact(y, d),
                    Math.multiplyExact(n * xy - x * y, n * bigX - x));
            tells = Math.floorDiv(over, Math.multiplyExact(n, d));
        }
        return Math.min(999999, Math.max(0, tells));
    }

    // ---- what is asked

    int holds(int firm, int year, int kind, int of) {
        if (none(firm, year) || kind < 0 || kind > 8
                || kind <= 2 && (of < 0 || of > (kind == 2 ? 2 : 3))) {
            return NONE;
        }
        String name = List.of("allow", "share", "target", "return", "index", "wear", "back",
                "tilt", "log").get(kind);
        return own(today).place(firm, year, name, kind <= 2 ? of : 0);
    }

    long allowed(int firm, int head, int year, int day) {
        if (none(firm, year) || head < 0 || head > 3 || noDay(day)) {
            return -2_000_000_000;
        }
        return own(day).allowed(firm, head, year);
    }

    private boolean nonePoints(int firm, int head, int review, int driver) {
        return none(firm, 0) || head < 0 || head > 3 || review < 0 || review > 2 || driver < 0
                || driver > 2;
    }

    long points(int firm, int head, int review, int driver, int what) {
        if (nonePoints(firm, head, review, driver) || what < 0 || what > 2) {
            return NONE;
        }
        List<long[]> points = points(firm, head, review, driver);
        return what == 0 ? points.size() : sum(points, what - 1, NONE);
    }

    long worth(int firm, int year) {
        return none(firm, year) ? NO_COINS : own(today).worth(firm, year);
    }

    long line(int firm, int year, int day, int k) {
        if (none(firm, year) || noDay(day) || k < 0 || k > 14) {
            return NO_COINS;
        }
        return own(day).line(firm, year, k);
    }

    long revenue(int firm, int year, int day) {
        return none(firm, year) || noDay(day) ? NO_COINS : own(day).revenue(firm, year);
    }

    long bills(int firm, int year, int day, int what) {
        if (none(firm, year) || noDay(day) || what < 0 || what > 1) {
            return NO_COINS;
        }
        return own(day).bills(firm, year)[what];
    }

    long home(int firm, int year, int day, int what) {
        if (none(firm, year) || noDay(day) || what < 0 || what > 3) {
            return NO_COINS;
        }
        View view = own(day);
        long bills = view.bills(firm, year)[0];
        return what < 3 ? view.pays(firm, year, what, bills) : view.left(firm, year, bills);
    }

    long tried(int firm, int year) {
        if (none(firm, year) || beside == null) {
            return NO_COINS;
        }
        return with(year / 5, beside, today).revenue(firm, year);
    }

    long hole(int firm, int head, int year, int what) {
        if (none(firm, year) || head < 0 || head > 3 || what < 0 || what > 2) {
            return NO_COINS;
        }
        View view = own(today);
        Statement s = view.rule(firm, year, "allow", head);
        long cost = get(firm, year, 3 + head, today);
        if (s == null || !s.mode.equals("plan") || cost == NONE) {
            return NO_COINS;
        }
        long most = Long.MIN_VALUE;
        long by = 0;
        for (int h = 80; h <= 120; h += 5) {
            long kept = view.kept(firm, head, year,
                    cost - cost * h / 100 * s.numbers.get(0) / 100);
            if (kept > most) {
                most = kept;
                by = h;
            }
        }
        return what == 0 ? most : what == 1 ? by
                : view.kept(firm, head, year, cost - cost * s.numbers.get(0) / 100);
    }

    long span(int firm, int head, int review, int driver, int x, int what) {
        if (nonePoints(firm, head, review, driver) || x < 0 || x > 999 || what < 0 || what > 2) {
            return NONE;
        }
        List<long[]> points = points(firm, head, review, driver);
        if (points.isEmpty()) {
            return NONE;
        }
        TreeSet<Long> without = new TreeSet<>();
        for (long[] one : points) {
            without.add(tells("line", points.stream().filter(p -> p[2] != one[2]).toList(), x));
        }
        return what == 0 ? tells("line", points, x) : what == 1 ? without.first()
                : without.last();
    }

    int moves(int firm, int head, int review) {
        int found = NONE;
        long least = Long.MAX_VALUE;
        for (int driver = 0; driver < 3 && !nonePoints(firm, head, review, 0); driver++) {
            List<long[]> points = points(firm, head, review, driver);
            long off = 0;
            for (long[] p : points) {
                off += Math.abs(p[1] - tells("line", points, p[0]));
            }
            if (!points.isEmpty() && off < least) {
                least = off;
                found = driver;
            }
        }
        return found;
    }

    int putBy() {
        if (beside == null || putBy.size() == 4) {
            return NONE;
        }
        putBy.add(beside);
        return putBy.size() - 1;
    }

    long borne(int firm, int review) {
        if (none(firm, 0) || review < 0 || review > 2) {
            return NO_COINS;
        }
        return own(today).borne(firm, review);
    }

    int best(int review, int bound) {
        int found = NONE;
        long least = Long.MAX_VALUE;
        if (review < 0 || review > 2 || bound < 0 || bound > 99999) {
            return NONE;
        }
        for (int k = 0; k < putBy.size(); k++) {
            View view = with(review, putBy.get(k), today);
            long all = 0;
            boolean within = true;
            for (int firm = 0; firm < worths.size(); firm++) {
                within &= view.borne(firm, review) <= bound;
                for (int y = 5 * review; y < 5 * review + 5; y++) {
                    all += view.revenue(firm, y);
                }
            }
            if (within && all < least) {
                least = all;
                found = k;
            }
        }
        return found;
    }

    boolean tell(int k, int v) {
        if (k < 0 || k > 14) {
            return false;
        }
        told[k] = v;
        return true;
    }

    int check(int firm, int year, int day) {
        if (none(firm, year) || noDay(day)) {
            return -2;
        }
        for (int k = 0; k < 15; k++) {
            if (line(firm, year, day, k) != told[k]) {
                return k;
            }
        }
        return NONE;
    }

    int twice(int k, int what) {
        List<int[]> pairs = new ArrayList<>();
        for (int i = 0; i < works.size(); i++) {
            for (int j = i + 1; j < works.size(); j++) {
                Work a = works.get(i);
                Work b = works.get(j);
                if (a.firm == b.firm && a.coins == b.coins && Math.abs(a.due - b.due) < 2) {
                    pairs.add(new int[] {i, j});
                }
            }
        }
        return k < 0 || k >= pairs.size() || what < 0 || what > 1 ? NONE : pairs.get(k)[what];
    }

    long who(int firm, int year, int day, int kind, int line) {
        if (none(firm, year) || noDay(day) || kind < 0 || kind > 2 || line < 0 || line > 14) {
            return NO_COINS;
        }
        View view = own(day);
        return view.pays(firm, year, kind, view.line(firm, year, line));
    }

    int count(int what) {
        int[] counts = {today, worths.size(), facts.size(), works.size(),
            (int) works.stream().filter(w -> w.done != NONE).count(), bench.size(),
            logged.size(), taken.size(), beside == null ? 0 : 1, tape.size(), putBy.size()};
        return what < 0 || what >= counts.length ? NONE : counts[what];
    }
}
