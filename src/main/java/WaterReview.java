import java.util.Arrays;

/**
 * What a waterworks may earn. The words in capitals (FIRMS, LINES, BESIDE ..) are those of the
 * document; it says what each method promises.
 */
public final class WaterReview {
    /** There is none. */
    public static final int NONE = -1;

    private static final int NOT_TAKEN = -2;
    private static final int NONE_SUCH = -2;
    private static final int TOO_MANY = -3;
    private static final int NO_ALLOWED = -2_000_000_000;
    private static final long NO_COINS = -2_000_000_000_000L;

    private static final int DAYS = 1500;
    private static final int YEARS = 15;
    private static final int YEAR_DAYS = 100;
    private static final int REVIEWS = 3;
    private static final int REVIEW_YEARS = 5;
    private static final int REVIEW_DAYS = 500;

    private static final int MOST_FIRMS = 11;
    private static final int MOST_FACTS = 500;
    private static final int MOST_WORKS = 40;
    private static final int MOST_NOTES = 20;
    private static final int MOST_BYTES = 900;
    private static final int FED_BYTES = 20;
    private static final int MOST_TAKEN = 8;
    private static final int MOST_PUT_BY = 4;
    private static final int MOST_STATEMENTS = 30;
    private static final int MOST_OPEN = 10;
    // Every text but the first may amend another one: none has more statements than all together.
    private static final int MOST_TOGETHER = MOST_STATEMENTS * (MOST_TAKEN + 1);

    private static final int MOST_WORTH = 999_999;
    private static final int MOST_TOLD = 999_999;
    private static final int MOST_COINS = 99_999;
    private static final int MOST_NUMBER = 99_999;
    private static final int MOST_DRIVER = 999;
    private static final int MOST_COUNT = 9_999;

    private static final int HEADS = 4;
    private static final int DRIVERS = 3;
    private static final int OUTPUTS = 3;
    private static final int HOME_KINDS = 3;
    private static final int[] PARTS = {2, 3, 5};

    private static final int FACT_KINDS = 17;
    private static final int COST = 3;
    private static final int PLAN = 7;
    private static final int HOMES = 11;
    private static final int OUTPUT = 14;

    private static final int ALLOW = 0;
    private static final int SHARE = 1;
    private static final int TARGET = 2;
    private static final int RETURN = 3;
    private static final int INDEX = 4;
    private static final int WEAR = 5;
    private static final int BACK = 6;
    private static final int TILT = 7;
    private static final int LOG = 8;
    private static final int KINDS = 9;
    private static final int SLOTS = 17;

    private static final int BY_LINE = 0;
    private static final int BY_MEAN = 1;
    private static final int BY_PLAN = 3;
    private static final int MORE = 0;

    private static final int LINES = 15;
    private static final int LINE_RETURN = 4;
    private static final int LINE_WORKS = 5;
    private static final int LINE_BACK = 6;
    private static final int LINE_EARNED = 7;
    private static final int LINE_SHARED = 10;
    private static final int LINE_LOGGED = 14;

    private static final int LEAST_HOLE = 80;
    private static final int MOST_HOLE = 120;
    private static final int HOLE_STEP = 5;

    // A test behind "unless" stands as a row of numbers, its parts ahead of what joins them.
    private static final int NOT = -1;
    private static final int AND = -2;
    private static final int OR = -3;
    private static final int WORDS = 5;
    private static final int SIGNS = 3;
    private static final int[] NO_TEST = {};

    private final Register register = new Register();
    private final Sheet sheet = new Sheet(register);
    private final Points drawn = new Points(register);
    private final Reader reader = new Reader();
    private final int[] tape = new int[MOST_BYTES];
    private int taped;
    private final RuleBook[] taken = new RuleBook[MOST_TAKEN];
    private int takenCount;
    private RuleBook besideBook;
    private final RuleBook[] putByBooks = new RuleBook[MOST_PUT_BY];
    private int putByCount;
    private final int[] toldLines = new int[LINES];

    public WaterReview() {
    }

    public boolean day(int d) {
        if (d <= register.today || d >= DAYS) {
            return false;
        }
        register.today = d;
        return true;
    }

    public int firm(int worth) {
        return isWithin(worth, 0, MOST_WORTH) ? register.takeFirm(worth) : NONE;
    }

    public int fact(int firm, int year, int what, int v) {
        if (!isFirmsYear(firm, year) || !isWithin(what, 0, FACT_KINDS - 1)
                || !isWithin(v, 0, mostOfFact(what))) {
            return NONE;
        }
        return register.facts.take(firm, year, what, v, register.today);
    }

    public int known(int firm, int year, int what, int day) {
        if (!isFirmsYear(firm, year) || !isWithin(what, 0, FACT_KINDS - 1) || !isDay(day)) {
            return NONE;
        }
        return register.facts.knownBy(firm, year, what, day);
    }

    public int work(int firm, int coins, int due) {
        if (!isFirmsYear(firm, due) || !isWithin(coins, 1, MOST_COINS)) {
            return NONE;
        }
        return register.works.take(firm, coins, due);
    }

    public boolean done(int work) {
        return register.works.finish(work, register.today);
    }

    public int bench(int firm, int head, int year, int coins) {
        if (!isFirmsYear(firm, year) || !isHead(head) || !isWithin(coins, 0, MOST_COINS)) {
            return NONE;
        }
        return register.benchWords.take(firm, head, year, coins, register.today);
    }

    public int log(int firm, int year, int coins) {
        if (!isFirmsYear(firm, year) || year <= register.today / YEAR_DAYS
                || !isWithin(coins, 1, MOST_COINS)) {
            return NONE;
        }
        return register.logged.take(firm, 0, year, coins, register.today);
    }

    public int feed(int a, int b, int c, int d, int e) {
        if (taped + FED_BYTES > MOST_BYTES) {
            return NONE;
        }
        tapeNumber(a);
        tapeNumber(b);
        tapeNumber(c);
        tapeNumber(d);
        tapeNumber(e);
        return taped;
    }

    public int rules(int n, int review) {
        if (n < 0 || n > taped || !isReview(review)) {
            return NOT_TAKEN;
        }
        if (takenCount >= MOST_TAKEN) {
            return TOO_MANY;
        }
        RuleBook book = reader.read(tape, n, takenAt(takenOf(review, register.today)));
        taped = 0;
        if (book == null) {
            return NONE;
        }
        book.from = review;
        book.toldOn = register.today;
        taken[takenCount] = book;
        takenCount++;
        return takenCount - 1;
    }

    public int beside(int n) {
        if (n < 0 || n > taped) {
            return NOT_TAKEN;
        }
        int amended = takenOf(register.today / REVIEW_DAYS, register.today);
        besideBook = reader.read(tape, n, takenAt(amended));
        taped = 0;
        return besideBook == null ? NONE : 0;
    }

    public int fault() {
        return reader.fault;
    }

    public int review(int review, int what) {
        int number = isReview(review) ? takenOf(review, review * REVIEW_DAYS) : NONE;
        RuleBook book = takenAt(number);
        if (book == null) {
            return NONE;
        }
        switch (what) {
            case 0:
                return number;
            case 1:
                return book.size;
            case 2:
                return book.quarrelFirst();
            case 3:
                return book.quarrelWith(book.quarrelFirst());
            default:
                return NONE;
        }
    }

    public int holds(int firm, int year, int kind, int of) {
        if (!isFirmsYear(firm, year) || !isWithin(kind, ALLOW, LOG) || !isOfKind(kind, of)) {
            return NONE;
        }
        openOwn(firm, year, register.today);
        return sheet.standsAt(year, Rule.slotOf(kind, of));
    }

    public int allowed(int firm, int head, int year, int day) {
        if (!isFirmsYear(firm, year) || !isHead(head) || !isDay(day)) {
            return NO_ALLOWED;
        }
        openOwn(firm, year, day);
        return (int) sheet.allowedFor(year, head);
    }

    public int points(int firm, int head, int review, int driver, int what) {
        if (!isFirm(firm) || !isHead(head) || !isReview(review) || !isDriver(driver)) {
            return NONE;
        }
        drawn.gather(firm, head, review, driver);
        switch (what) {
            case 0:
                return drawn.size;
            case 1:
                return (int) drawn.sumX;
            case 2:
                return (int) drawn.sumY;
            default:
                return NONE;
        }
    }

    public long worth(int firm, int year) {
        if (!isFirmsYear(firm, year)) {
            return NO_COINS;
        }
        openOwn(firm, year, register.today);
        return sheet.worthAt(year);
    }

    public long line(int firm, int year, int day, int k) {
        if (!isFirmsYear(firm, year) || !isDay(day) || !isWithin(k, 0, LINES - 1)) {
            return NO_COINS;
        }
        openOwn(firm, year, day);
        sheet.fillLines(year, year);
        return sheet.lineAt(year, k);
    }

    public long revenue(int firm, int year, int day) {
        if (!isFirmsYear(firm, year) || !isDay(day)) {
            return NO_COINS;
        }
        openOwn(firm, year, day);
        sheet.fillLines(year, year);
        return sheet.allLines(year);
    }

    public long bills(int firm, int year, int day, int what) {
        if (!isFirmsYear(firm, year) || !isDay(day) || !isWithin(what, 0, 1)) {
            return NO_COINS;
        }
        openOwn(firm, year, day);
        sheet.fillBills(year);
        return what == 0 ? sheet.billsAt(year) : sheet.carriedAt(year);
    }

    public long home(int firm, int year, int day, int what) {
        if (!isFirmsYear(firm, year) || !isDay(day) || !isWithin(what, 0, HOME_KINDS)) {
            return NO_COINS;
        }
        openOwn(firm, year, day);
        sheet.fillBills(year);
        long all = sheet.billsAt(year);
        if (what < HOME_KINDS) {
            return register.partOf(all, what, firm, year, day);
        }
        long left = all;
        for (int kind = 0; kind < HOME_KINDS; kind++) {
            long pays = register.partOf(all, kind, firm, year, day);
            left -= pays * register.homesOf(kind, firm, year, day);
        }
        return left;
    }

    public long tried(int firm, int year) {
        if (!isFirmsYear(firm, year) || besideBook == null) {
            return NO_COINS;
        }
        useOwnRules();
        sheet.useRules(year / REVIEW_YEARS, besideBook);
        sheet.open(firm, year, register.today);
        sheet.fillLines(year, year);
        return sheet.allLines(year);
    }

    public long hole(int firm, int head, int year, int what) {
        if (!isFirmsYear(firm, year) || !isHead(head) || !isWithin(what, 0, 2)) {
            return NO_COINS;
        }
        openOwn(firm, year, register.today);
        int cost = register.facts.knownBy(firm, year, COST + head, register.today);
        if (cost == NONE || !sheet.isByPlan(year, head)) {
            return NO_COINS;
        }
        if (what == 2) {
            return sheet.keptByPlan(year, head, cost, cost);
        }
        int by = LEAST_HOLE;
        long most = sheet.keptByPlan(year, head, cost, Sums.cut((long) cost * by, 100));
        for (int next = LEAST_HOLE + HOLE_STEP; next <= MOST_HOLE; next += HOLE_STEP) {
            long kept = sheet.keptByPlan(year, head, cost, Sums.cut((long) cost * next, 100));
            if (kept > most) {
                most = kept;
                by = next;
            }
        }
        return what == 0 ? most : by;
    }

    public int span(int firm, int head, int review, int driver, int x, int what) {
        if (!isFirm(firm) || !isHead(head) || !isReview(review) || !isDriver(driver)
                || !isWithin(x, 0, MOST_DRIVER) || !isWithin(what, 0, 2)) {
            return NONE;
        }
        drawn.gather(firm, head, review, driver);
        if (drawn.size == 0) {
            return NONE;
        }
        if (what == 0) {
            return (int) drawn.lineTells(x);
        }
        return (int) endOfSpan(x, what == 2);
    }

    public int moves(int firm, int head, int review) {
        if (!isFirm(firm) || !isHead(head) || !isReview(review)) {
            return NONE;
        }
        int mover = NONE;
        long least = 0;
        for (int driver = 0; driver < DRIVERS; driver++) {
            drawn.gather(firm, head, review, driver);
            if (drawn.size == 0) {
                continue;
            }
            long missed = drawn.missedByLine();
            if (mover == NONE || missed < least) {
                mover = driver;
                least = missed;
            }
        }
        return mover;
    }

    public int putBy() {
        if (besideBook == null || putByCount >= MOST_PUT_BY) {
            return NONE;
        }
        putByBooks[putByCount] = besideBook;
        putByCount++;
        return putByCount - 1;
    }

    public long borne(int firm, int review) {
        if (!isFirm(firm) || !isReview(review)) {
            return NO_COINS;
        }
        openOwn(firm, lastYearOf(review), register.today);
        return sheet.borneFrom(review * REVIEW_YEARS);
    }

    public int best(int review, int bound) {
        if (!isReview(review) || !isWithin(bound, 0, MOST_COINS)) {
            return NONE;
        }
        useOwnRules();
        int found = NONE;
        long least = 0;
        for (int k = 0; k < putByCount; k++) {
            sheet.useRules(review, putByBooks[k]);
            if (!isBorneWithin(review, bound)) {
                continue;
            }
            long all = allRevenues(review);
            if (found == NONE || all < least) {
                found = k;
                least = all;
            }
        }
        return found;
    }

    public boolean tell(int k, int v) {
        if (!isWithin(k, 0, LINES - 1)) {
            return false;
        }
        toldLines[k] = v;
        return true;
    }

    public int check(int firm, int year, int day) {
        if (!isFirmsYear(firm, year) || !isDay(day)) {
            return NONE_SUCH;
        }
        openOwn(firm, year, day);
        sheet.fillLines(year, year);
        for (int k = 0; k < LINES; k++) {
            if (sheet.lineAt(year, k) != toldLines[k]) {
                return k;
            }
        }
        return NONE;
    }

    public int twice(int k, int what) {
        return k >= 0 && isWithin(what, 0, 1) ? register.works.pair(k, what) : NONE;
    }

    public long who(int firm, int year, int day, int kind, int line) {
        if (!isFirmsYear(firm, year) || !isDay(day) || !isWithin(kind, 0, HOME_KINDS - 1)
                || !isWithin(line, 0, LINES - 1)) {
            return NO_COINS;
        }
        openOwn(firm, year, day);
        sheet.fillLines(year, year);
        return register.partOf(sheet.lineAt(year, line), kind, firm, year, day);
    }

    public int count(int what) {
        switch (what) {
            case 0:
                return register.today;
            case 1:
                return register.firms;
            case 2:
                return register.facts.told;
            case 3:
                return register.works.told;
            case 4:
                return register.works.finished;
            case 5:
                return register.benchWords.told;
            case 6:
                return register.logged.told;
            case 7:
                return takenCount;
            case 8:
                return besideBook == null ? 0 : 1;
            case 9:
                return taped;
            case 10:
                return putByCount;
            default:
                return NONE;
        }
    }

    private boolean isFirm(int firm) {
        return firm >= 0 && firm < register.firms;
    }

    private boolean isFirmsYear(int firm, int year) {
        return isFirm(firm) && isWithin(year, 0, YEARS - 1);
    }

    private static boolean isWithin(int v, int least, int most) {
        return v >= least && v <= most;
    }

    private static boolean isDay(int day) {
        return isWithin(day, 0, DAYS - 1);
    }

    private static boolean isReview(int review) {
        return isWithin(review, 0, REVIEWS - 1);
    }

    private static boolean isHead(int head) {
        return isWithin(head, 0, HEADS - 1);
    }

    private static boolean isDriver(int driver) {
        return isWithin(driver, 0, DRIVERS - 1);
    }

    private static boolean isOfKind(int kind, int of) {
        if (kind == ALLOW || kind == SHARE) {
            return isHead(of);
        }
        return kind != TARGET || isWithin(of, 0, OUTPUTS - 1);
    }

    private static int mostOfFact(int what) {
        if (what < COST) {
            return MOST_DRIVER;
        }
        return what < HOMES ? MOST_COINS : MOST_COUNT;
    }

    private static int lastYearOf(int review) {
        return review * REVIEW_YEARS + REVIEW_YEARS - 1;
    }

    private void tapeNumber(int number) {
        for (int shift = 24; shift >= 0; shift -= 8) {
            if (taped < MOST_BYTES) {
                tape[taped] = (number >>> shift) & 255;
                taped++;
            }
        }
    }

    /** The number of the RULES that a REVIEW would have if it were decided on a DAY. */
    private int takenOf(int review, int decided) {
        int number = NONE;
        int latest = NONE;
        for (int i = 0; i < takenCount; i++) {
            RuleBook book = takenAt(i);
            if (book != null && book.toldOn <= decided && book.from <= review
                    && book.from >= latest) {
                number = i;
                latest = book.from;
            }
        }
        return number;
    }

    private RuleBook takenAt(int number) {
        return number >= 0 && number < takenCount && number < MOST_TAKEN ? taken[number] : null;
    }

    private void useOwnRules() {
        for (int review = 0; review < REVIEWS; review++) {
            sheet.useRules(review, takenAt(takenOf(review, review * REVIEW_DAYS)));
        }
    }

    private void openOwn(int firm, int year, int day) {
        useOwnRules();
        sheet.open(firm, year, day);
    }

    /** The least or the most that "line" tells of x with one of the other FIRMS left out. */
    private long endOfSpan(int x, boolean most) {
        long end = NONE;
        for (int other = 0; other < register.firms; other++) {
            if (!drawn.has(other)) {
                continue;
            }
            drawn.addUp(other);
            long tells = drawn.lineTells(x);
            if (end == NONE || (most ? tells > end : tells < end)) {
                end = tells;
            }
        }
        return end;
    }

    private boolean isBorneWithin(int review, int bound) {
        for (int firm = 0; firm < register.firms; firm++) {
            sheet.open(firm, lastYearOf(review), register.today);
            if (sheet.borneFrom(review * REVIEW_YEARS) > bound) {
                return false;
            }
        }
        return true;
    }

    private long allRevenues(int review) {
        long all = 0;
        for (int firm = 0; firm < register.firms; firm++) {
            sheet.open(firm, lastYearOf(review), register.today);
            sheet.fillLines(review * REVIEW_YEARS, lastYearOf(review));
            for (int year = review * REVIEW_YEARS; year <= lastYearOf(review); year++) {
                all += sheet.allLines(year);
            }
        }
        return all;
    }

    /** Sums that more than one class does. */
    static final class Sums {
        private Sums() {
        }

        /** a by b, without what stands behind the point; 0 if b is 0. */
        static long cut(long a, long b) {
            return b == 0 ? 0 : a / b;
        }

        static long hundredths(long coins, long hundredths) {
            return coins * hundredths / 100;
        }

        static long size(long v) {
            return v < 0 ? -v : v;
        }

        /** a by b, cut, and held within the bounds of what a mode tells; 0 if b is 0. */
        static long held(long a, long b) {
            long told = b == 0 ? 0 : a / b;
            return told < 0 ? 0 : told > MOST_TOLD ? MOST_TOLD : told;
        }
    }

    /** FACTS as they were told; each leads to the one told before it of the same thing. */
    static final class Facts {
        private final int[] values = new int[MOST_FACTS];
        private final int[] toldOn = new int[MOST_FACTS];
        private final int[] before = new int[MOST_FACTS];
        private final int[] latest = new int[MOST_FIRMS * YEARS * FACT_KINDS];
        int told;

        Facts() {
            Arrays.fill(latest, NONE);
        }

        int take(int firm, int year, int what, int v, int today) {
            int place = placeOf(firm, year, what);
            if (place == NONE || told >= MOST_FACTS) {
                return NONE;
            }
            values[told] = v;
            toldOn[told] = today;
            before[told] = latest[place];
            latest[place] = told;
            told++;
            return told - 1;
        }

        int knownBy(int firm, int year, int what, int day) {
            int place = placeOf(firm, year, what);
            int i = place == NONE ? NONE : latest[place];
            for (int steps = 0; steps < MOST_FACTS && i >= 0 && i < MOST_FACTS; steps++) {
                if (toldOn[i] <= day) {
                    return values[i];
                }
                i = before[i];
            }
            return NONE;
        }

        /** What is KNOWN of the latest YEAR up to one that has any; 0 without. */
        int latestUpTo(int firm, int lastYear, int what, int day) {
            for (int year = lastYear; year >= 0; year--) {
                int v = knownBy(firm, year, what, day);
                if (v != NONE) {
                    return v;
                }
            }
            return 0;
        }

        /** The homes of all kinds of the latest YEAR up to one that has any; 0 without. */
        int latestHomesUpTo(int firm, int lastYear, int day) {
            boolean hasAny = false;
            int all = 0;
            for (int year = lastYear; year >= 0 && !hasAny; year--) {
                for (int kind = 0; kind < HOME_KINDS; kind++) {
                    int homes = knownBy(firm, year, HOMES + kind, day);
                    if (homes != NONE) {
                        hasAny = true;
                        all += homes;
                    }
                }
            }
            return all;
        }

        private int placeOf(int firm, int year, int what) {
            if (firm < 0 || firm >= MOST_FIRMS || year < 0 || year >= YEARS
                    || what < 0 || what >= FACT_KINDS) {
                return NONE;
            }
            return (firm * YEARS + year) * FACT_KINDS + what;
        }
    }

    /** WORKS, and the DAYS on which they were DONE. */
    static final class Works {
        private final int[] firms = new int[MOST_WORKS];
        private final int[] coins = new int[MOST_WORKS];
        private final int[] due = new int[MOST_WORKS];
        private final int[] doneOn = new int[MOST_WORKS];
        int told;
        int finished;

        int take(int firm, int itsCoins, int dueYear) {
            if (told >= MOST_WORKS) {
                return NONE;
            }
            firms[told] = firm;
            coins[told] = itsCoins;
            due[told] = dueYear;
            doneOn[told] = NONE;
            told++;
            return told - 1;
        }

        boolean finish(int work, int today) {
            if (!isThere(work) || doneOn[work] != NONE) {
                return false;
            }
            doneOn[work] = today;
            finished++;
            return true;
        }

        int coinsOf(int work) {
            return isThere(work) ? coins[work] : 0;
        }

        int dueOf(int work) {
            return isThere(work) ? due[work] : NONE;
        }

        /** Whether a FIRM's WORK was due ahead of a YEAR and not DONE as that began. */
        boolean isLate(int work, int firm, int year) {
            if (!isThere(work) || firms[work] != firm || due[work] >= year) {
                return false;
            }
            // What is DONE on a YEAR's first DAY is DONE in that YEAR: it wasn't yet as it began.
            return doneOn[work] == NONE || doneOn[work] >= year * YEAR_DAYS;
        }

        int countLate(int firm, int year) {
            int late = 0;
            for (int i = 0; i < told && i < MOST_WORKS; i++) {
                if (isLate(i, firm, year)) {
                    late++;
                }
            }
            return late;
        }

        long coinsDue(int firm, int year) {
            long all = 0;
            for (int i = 0; i < told && i < MOST_WORKS; i++) {
                if (firms[i] == firm && due[i] == year) {
                    all += coins[i];
                }
            }
            return all;
        }

        long coinsDone(int firm, int year) {
            long all = 0;
            for (int i = 0; i < told && i < MOST_WORKS; i++) {
                if (firms[i] == firm && doneOn[i] != NONE && doneOn[i] / YEAR_DAYS == year) {
                    all += coins[i];
                }
            }
            return all;
        }

        /** The first (what 0) or second WORK of the k-th pair that is told TWICE. */
        int pair(int k, int what) {
            int pairs = 0;
            for (int i = 0; i < told; i++) {
                for (int j = i + 1; j < told; j++) {
                    if (!isTwice(i, j)) {
                        continue;
                    }
                    if (pairs == k) {
                        return what == 0 ? i : j;
                    }
                    pairs++;
                }
            }
            return NONE;
        }

        private boolean isTwice(int i, int j) {
            return isThere(i) && isThere(j) && firms[i] == firms[j] && coins[i] == coins[j]
                    && Math.abs(due[i] - due[j]) <= 1;
        }

        private boolean isThere(int work) {
            return work >= 0 && work < told && work < MOST_WORKS;
        }
    }

    /** Coins for a FIRM, a YEAR (and a HEAD), KNOWN from a DAY: BENCH words, what is LOGGED. */
    static final class Notes {
        private final int[] firms = new int[MOST_NOTES];
        private final int[] heads = new int[MOST_NOTES];
        private final int[] years = new int[MOST_NOTES];
        private final int[] coins = new int[MOST_NOTES];
        private final int[] toldOn = new int[MOST_NOTES];
        int told;

        int take(int firm, int head, int year, int itsCoins, int today) {
            if (told >= MOST_NOTES) {
                return NONE;
            }
            firms[told] = firm;
            heads[told] = head;
            years[told] = year;
            coins[told] = itsCoins;
            toldOn[told] = today;
            told++;
            return told;
        }

        int lastKnown(int firm, int head, int year, int day) {
            int last = NONE;
            for (int i = 0; i < told && i < MOST_NOTES; i++) {
                if (isOf(i, firm, head, year) && toldOn[i] <= day) {
                    last = coins[i];
                }
            }
            return last;
        }

        long allKnown(int firm, int head, int year, int day) {
            long all = 0;
            for (int i = 0; i < told && i < MOST_NOTES; i++) {
                if (isOf(i, firm, head, year) && toldOn[i] <= day) {
                    all += coins[i];
                }
            }
            return all;
        }

        private boolean isOf(int i, int firm, int head, int year) {
            return i >= 0 && i < MOST_NOTES
                    && firms[i] == firm && heads[i] == head && years[i] == year;
        }
    }

    /** All that was told but RULES, and TODAY. */
    static final class Register {
        private final int[] worths = new int[MOST_FIRMS];
        final Facts facts = new Facts();
        final Works works = new Works();
        final Notes benchWords = new Notes();
        final Notes logged = new Notes();
        int firms;
        int today;

        int takeFirm(int itsWorth) {
            if (firms >= MOST_FIRMS) {
                return NONE;
            }
            worths[firms] = itsWorth;
            firms++;
            return firms - 1;
        }

        int firstWorthOf(int firm) {
            return firm >= 0 && firm < MOST_FIRMS ? worths[firm] : 0;
        }

        int homesOf(int kind, int firm, int year, int day) {
            return Math.max(0, facts.knownBy(firm, year, HOMES + kind, day));
        }

        /** What of the coins one HOME of a kind pays. */
        long partOf(long coins, int kind, int firm, int year, int day) {
            long all = 0;
            for (int each = 0; each < HOME_KINDS; each++) {
                all += partsOf(each) * homesOf(each, firm, year, day);
            }
            return Sums.cut(coins * partsOf(kind), all);
        }

        private long partsOf(int kind) {
            return kind >= 0 && kind < PARTS.length ? PARTS[kind] : 0;
        }
    }

    /** One RULE. What of its numbers its kind doesn't have is 0. */
    static final class Rule {
        final int kind;
        int of;
        int mode;
        int driver;
        int number;
        int second;
        int step;
        int coin;
        int dead;
        int cap;
        int[] unless = NO_TEST;

        Rule(int itsKind) {
            kind = itsKind;
        }

        /** Where a kind (with its HEAD or OUTPUT) stands among all of them. */
        static int slotOf(int kind, int of) {
            switch (kind) {
                case ALLOW:
                    return of;
                case SHARE:
                    return HEADS + of;
                case TARGET:
                    return HEADS + HEADS + of;
                default:
                    return HEADS + HEADS + OUTPUTS + kind - RETURN;
            }
        }

        int slot() {
            return slotOf(kind, of);
        }

        boolean hasUnless() {
            return unless.length > 0;
        }

        /** Whether the "unless" doesn't hold; words are what year, firm .. late are. */
        boolean stands(long[] words) {
            if (!hasUnless()) {
                return true;
            }
            // The lowest bit is the answer told last; at most some thirty wait at once.
            long answers = 0;
            for (int part : unless) {
                if (part == NOT) {
                    answers ^= 1;
                } else if (part == AND) {
                    answers = (answers >> 1) & (answers | ~1L);
                } else if (part == OR) {
                    answers = (answers >> 1) | (answers & 1);
                } else {
                    answers = (answers << 1) | (compares(part, words) ? 1 : 0);
                }
            }
            return (answers & 1) == 0;
        }

        static int comparison(int word, int sign, int number) {
            return (number * WORDS + word) * SIGNS + sign;
        }

        private boolean compares(int part, long[] words) {
            int word = part / SIGNS % WORDS;
            if (word < 0 || word >= words.length) {
                return false;
            }
            long number = part / SIGNS / WORDS;
            switch (part % SIGNS) {
                case 0:
                    return words[word] < number;
                case 1:
                    return words[word] > number;
                default:
                    return words[word] == number;
            }
        }

        /** What is EARNED (below 0: owed) with an OUTPUT by this target. */
        long earns(long output) {
            long by = mode == MORE ? output - number : number - output;
            long beyond = Math.max(0, Sums.size(by) - dead);
            long coins = Math.min(cap, Sums.cut(beyond, step) * coin);
            return by < 0 ? -coins : coins;
        }
    }

    /** RULES as one text told them, with those that it amends. */
    static final class RuleBook {
        private final Rule[] statements;
        int size;
        int from;
        int toldOn;

        RuleBook(int most) {
            statements = new Rule[Math.max(0, most)];
        }

        void add(Rule rule) {
            if (size < statements.length) {
                statements[size] = rule;
                size++;
            }
        }

        Rule at(int place) {
            return place >= 0 && place < size ? statements[place] : null;
        }

        int quarrelFirst() {
            for (int i = 0; i < size; i++) {
                if (quarrelWith(i) != NONE) {
                    return i;
                }
            }
            return NONE;
        }

        /** The first statement behind a place that is in QUARREL with the one there. */
        int quarrelWith(int place) {
            Rule first = at(place);
            if (first == null || first.hasUnless()) {
                return NONE;
            }
            for (int i = place + 1; i < size; i++) {
                Rule second = at(i);
                if (second != null && !second.hasUnless() && second.slot() == first.slot()) {
                    return i;
                }
            }
            return NONE;
        }
    }

    /**
     * Reads a text of RULES, token by token. The first token that doesn't fit is the FAULT; it is
     * never stepped over, so that nothing behind it fits either.
     */
    static final class Reader {
        private static final int END = 0;
        private static final int WORD = 1;
        private static final int DIGITS = 2;
        private static final int SIGN = 3;
        private static final int BLANK = 4;
        private static final int STRAY = 5;
        private static final int MOST_DIGITS = 5;

        private int[] text = NO_TEST;
        private int length;
        private int token;
        private int start;
        private int end;
        int fault = NONE;
        private final int[] struck = new int[MOST_TOGETHER];
        private int struckCount;
        private final Rule[] made = new Rule[MOST_STATEMENTS];
        private int madeCount;
        private final int[] test = new int[MOST_BYTES];
        private int testLength;

        /** The RULES that the first n bytes tell, behind those they amend; null: a FAULT. */
        RuleBook read(int[] bytes, int n, RuleBook amended) {
            text = bytes;
            length = Math.max(0, Math.min(n, bytes.length));
            end = 0;
            fault = NONE;
            struckCount = 0;
            Arrays.fill(struck, 0);
            madeCount = 0;
            step();
            boolean amends = isWord("amend");
            if (amends) {
                step();
                sign(';');
            }
            RuleBook base = amends ? amended : null;
            for (int i = 0; i < MOST_STATEMENTS && token != END && fault == NONE; i++) {
                if (amends && isWord("strike")) {
                    strike(base);
                } else {
                    rule();
                }
            }
            if (token != END) {
                fail();
            }
            return fault == NONE ? together(base) : null;
        }

        private RuleBook together(RuleBook base) {
            int kept = base == null ? 0 : base.size;
            RuleBook book = new RuleBook(kept - struckCount + madeCount);
            for (int i = 0; i < kept; i++) {
                if (i >= struck.length || struck[i] == 0) {
                    book.add(base.at(i));
                }
            }
            for (int i = 0; i < madeCount && i < made.length; i++) {
                book.add(made[i]);
            }
            return book;
        }

        private void strike(RuleBook base) {
            step();
            int place = token == DIGITS ? value() : NONE;
            if (base == null || place < 0 || place >= base.size || place >= struck.length
                    || struck[place] != 0) {
                fail();
                return;
            }
            step();
            sign(';');
            struck[place] = 1;
            struckCount++;
        }

        private void rule() {
            int kind = pick("allow share target return index wear back tilt log");
            Rule rule = new Rule(kind);
            testLength = 0;
            switch (kind) {
                case ALLOW:
                    allow(rule);
                    break;
                case SHARE:
                    rule.of = pick("run pipes power other");
                    rule.number = number(0, 100);
                    rule.second = number(0, 100);
                    break;
                case TARGET:
                    target(rule);
                    break;
                case RETURN:
                    rule.number = number(0, 500);
                    break;
                case INDEX:
                    rule.number = number(50, 150);
                    break;
                default:
                    rule.number = number(0, 100);
                    break;
            }
            if (isWord("unless")) {
                step();
                any(0);
                rule.unless = Arrays.copyOf(test, Math.min(testLength, test.length));
            }
            sign(';');
            if (fault == NONE && madeCount < made.length) {
                made[madeCount] = rule;
                madeCount++;
            }
        }

        private void allow(Rule rule) {
            rule.of = pick("run pipes power other");
            rule.mode = pick("line mean best plan");
            if (rule.mode != BY_PLAN) {
                rule.driver = number(0, DRIVERS - 1);
            }
            rule.number = number(0, 200);
        }

        private void target(Rule rule) {
            rule.of = number(0, OUTPUTS - 1);
            rule.mode = pick("more less");
            rule.number = number(0, MOST_NUMBER);
            pick("step");
            rule.step = number(1, MOST_NUMBER);
            pick("coin");
            rule.coin = number(0, MOST_NUMBER);
            pick("dead");
            rule.dead = number(0, MOST_NUMBER);
            pick("cap");
            rule.cap = number(0, MOST_NUMBER);
        }

        private void any(int open) {
            all(open);
            for (int i = 0; i < MOST_BYTES && isWord("or"); i++) {
                step();
                all(open);
                write(OR);
            }
        }

        private void all(int open) {
            one(open);
            for (int i = 0; i < MOST_BYTES && isWord("and"); i++) {
                step();
                one(open);
                write(AND);
            }
        }

        private void one(int open) {
            boolean isNot = isWord("not");
            if (!isNot && !isSign('(')) {
                comparison();
                return;
            }
            if (open >= MOST_OPEN) {
                fail();
                return;
            }
            step();
            if (isNot) {
                one(open + 1);
                write(NOT);
            } else {
                any(open + 1);
                sign(')');
            }
        }

        private void comparison() {
            int word = pick("year firm homes worth late");
            int sign = isSign('<') ? 0 : isSign('>') ? 1 : isSign('=') ? 2 : NONE;
            if (sign == NONE) {
                fail();
                return;
            }
            step();
            write(Rule.comparison(word, sign, number(0, MOST_NUMBER)));
        }

        private void write(int part) {
            if (testLength < test.length) {
                test[testLength] = part;
                testLength++;
            }
        }

        /** Steps over one of the words: its place among them; NONE: the token is none of them. */
        private int pick(String words) {
            int place = placeAmong(words);
            if (place == NONE) {
                fail();
            } else {
                step();
            }
            return place;
        }

        /** Steps over a NUMBER; NONE: the token is none, or beyond its bounds. */
        private int number(int least, int most) {
            int value = token == DIGITS ? value() : NONE;
            if (value == NONE || value < least || value > most) {
                fail();
                return NONE;
            }
            step();
            return value;
        }

        private void sign(char sign) {
            if (isSign(sign)) {
                step();
            } else {
                fail();
            }
        }

        private boolean isWord(String word) {
            return placeAmong(word) == 0;
        }

        private boolean isSign(char sign) {
            return token == SIGN && byteAt(start) == sign;
        }

        /** The place of the token among words that stand a blank apart; NONE: it's none of them. */
        private int placeAmong(String words) {
            if (token != WORD) {
                return NONE;
            }
            int place = 0;
            int at = start;
            for (int i = 0; i <= words.length(); i++) {
                char sought = i < words.length() ? words.charAt(i) : ' ';
                if (sought != ' ') {
                    at = at < end && byteAt(at) == sought ? at + 1 : length + 1;
                } else if (at == end) {
                    return place;
                } else {
                    place++;
                    at = start;
                }
            }
            return NONE;
        }

        /** What the digits tell; NONE: there are too many for a NUMBER. */
        private int value() {
            if (end - start > MOST_DIGITS) {
                return NONE;
            }
            int value = 0;
            for (int i = start; i < end; i++) {
                value = value * 10 + byteAt(i) - '0';
            }
            return value;
        }

        private void fail() {
            if (fault == NONE) {
                fault = start;
            }
            token = STRAY;
        }

        private void step() {
            if (fault != NONE) {
                return;
            }
            start = end;
            while (start < length && kindOf(byteAt(start)) == BLANK) {
                start++;
            }
            end = start;
            token = start < length ? kindOf(byteAt(start)) : END;
            if (token == END) {
                return;
            }
            end++;
            while (end < length && (token == WORD || token == DIGITS)
                    && kindOf(byteAt(end)) == token) {
                end++;
            }
        }

        private int byteAt(int i) {
            return i >= 0 && i < length && i < text.length ? text[i] : NONE;
        }

        private static int kindOf(int c) {
            if (c >= 'a' && c <= 'z') {
                return WORD;
            }
            if (c >= '0' && c <= '9') {
                return DIGITS;
            }
            switch (c) {
                case ' ':
                case 10:
                    return BLANK;
                case ';':
                case '(':
                case ')':
                case '<':
                case '>':
                case '=':
                    return SIGN;
                default:
                    return STRAY;
            }
        }
    }

    /** The POINTS for a FIRM: DRIVERS and COSTS of all others, and what the modes tell by them. */
    static final class Points {
        private static final int MOST = (MOST_FIRMS - 1) * REVIEW_YEARS;
        private final Register register;
        private final int[] owners = new int[MOST];
        private final int[] drivers = new int[MOST];
        private final int[] costs = new int[MOST];
        int size;
        private long counted;
        long sumX;
        long sumY;
        private long sumXX;
        private long sumXY;

        Points(Register itsRegister) {
            register = itsRegister;
        }

        void gather(int firm, int head, int review, int driver) {
            size = 0;
            int begins = review * REVIEW_YEARS;
            int decided = review * REVIEW_DAYS;
            for (int other = 0; other < register.firms; other++) {
                for (int year = begins - REVIEW_YEARS; year < begins && other != firm; year++) {
                    int x = register.facts.knownBy(other, year, driver, decided);
                    int y = register.facts.knownBy(other, year, COST + head, decided);
                    if (x != NONE && y != NONE) {
                        add(other, x, y);
                    }
                }
            }
            addUp(NONE);
        }

        private void add(int owner, int x, int y) {
            if (size < MOST) {
                owners[size] = owner;
                drivers[size] = x;
                costs[size] = y;
                size++;
            }
        }

        boolean has(int owner) {
            for (int i = 0; i < size && i < MOST; i++) {
                if (owners[i] == owner) {
                    return true;
                }
            }
            return false;
        }

        /** Makes the sums of all POINTS but those of a FIRM (NONE: of all). */
        void addUp(int leftOut) {
            counted = 0;
            sumX = 0;
            sumY = 0;
            sumXX = 0;
            sumXY = 0;
            for (int i = 0; i < size && i < MOST; i++) {
                if (owners[i] == leftOut) {
                    continue;
                }
                long x = drivers[i];
                long y = costs[i];
                counted++;
                sumX += x;
                sumY += y;
                sumXX += x * x;
                sumXY += x * y;
            }
        }

        long lineTells(long x) {
            long d = counted * sumXX - sumX * sumX;
            if (d == 0) {
                return meanTells(x);
            }
            long rise = (counted * sumXY - sumX * sumY) * (counted * x - sumX);
            return Sums.held(sumY * d + rise, counted * d);
        }

        long meanTells(long x) {
            return Sums.held(sumY * x, sumX);
        }

        long bestTells(long x) {
            int best = NONE;
            for (int i = 0; i < size && i < MOST; i++) {
                if (drivers[i] > 0 && (best == NONE
                        || (long) costs[i] * drivers[best] < (long) costs[best] * drivers[i])) {
                    best = i;
                }
            }
            return best == NONE ? 0 : Sums.held(costs[best] * x, drivers[best]);
        }

        /** By how much "line" misses all COSTS together. */
        long missedByLine() {
            long all = 0;
            for (int i = 0; i < size && i < MOST; i++) {
                all += Sums.size(costs[i] - lineTells(drivers[i]));
            }
            return all;
        }
    }

    /**
     * One FIRM's YEARS as KNOWN by a DAY, by the RULES of each REVIEW that it is given: opened up
     * to a YEAR first, then its lines are filled, then read.
     */
    static final class Sheet {
        private final Register register;
        private final Points points;
        private final RuleBook[] books = new RuleBook[REVIEWS];
        private final int[][] standing = new int[YEARS][SLOTS];
        private final int[][] numbers = new int[YEARS][KINDS];
        private final long[] worths = new long[YEARS + 1];
        private final long[][] allowedCoins = new long[YEARS][HEADS];
        private final long[][] lines = new long[YEARS][LINES];
        private final long[] yearBills = new long[YEARS];
        private final long[] carriedOn = new long[YEARS];
        private final long[] words = new long[WORDS];
        private int firm;
        private int day;

        Sheet(Register itsRegister) {
            register = itsRegister;
            points = new Points(itsRegister);
        }

        void useRules(int review, RuleBook book) {
            if (review >= 0 && review < REVIEWS) {
                books[review] = book;
            }
        }

        /** Finds which RULES hold, and the WORTH, YEAR by YEAR up to the last one. */
        void open(int forFirm, int lastYear, int byDay) {
            firm = forFirm;
            day = byDay;
            worths[0] = register.firstWorthOf(firm);
            for (int year = 0; year <= lastYear && year < YEARS; year++) {
                settle(year);
                long risen = Sums.hundredths(worths[year], numberAt(year, INDEX));
                long worn = Sums.hundredths(worths[year], numberAt(year, WEAR));
                worths[year + 1] = risen + register.works.coinsDone(firm, year) - worn;
            }
        }

        private void settle(int year) {
            if (year < 0 || year >= YEARS) {
                return;
            }
            int[] places = standing[year];
            int[] told = numbers[year];
            Arrays.fill(places, NONE);
            Arrays.fill(told, 0);
            told[INDEX] = 100;
            told[TILT] = NONE;
            RuleBook book = bookOf(year);
            if (book == null) {
                return;
            }
            findWords(year);
            for (int i = 0; i < book.size; i++) {
                Rule rule = book.at(i);
                if (rule == null || !rule.stands(words)) {
                    continue;
                }
                int slot = rule.slot();
                if (slot >= 0 && slot < SLOTS && rule.kind >= 0 && rule.kind < KINDS) {
                    places[slot] = i;
                    told[rule.kind] = rule.number;
                }
            }
        }

        private void findWords(int year) {
            words[0] = year;
            words[1] = firm;
            words[2] = register.facts.latestHomesUpTo(firm, year, decidedOn(year));
            words[3] = worths[year];
            words[4] = register.works.countLate(firm, year);
        }

        private RuleBook bookOf(int year) {
            return year >= 0 && year < YEARS ? books[year / REVIEW_YEARS] : null;
        }

        private static int decidedOn(int year) {
            return year / REVIEW_YEARS * REVIEW_DAYS;
        }

        int standsAt(int year, int slot) {
            if (year < 0 || year >= YEARS || slot < 0 || slot >= SLOTS) {
                return NONE;
            }
            return standing[year][slot];
        }

        private Rule ruleAt(int year, int kind, int of) {
            RuleBook book = bookOf(year);
            return book == null ? null : book.at(standsAt(year, Rule.slotOf(kind, of)));
        }

        /** The number of "return", "index" .. "log" that holds, or what is due without. */
        private int numberAt(int year, int kind) {
            boolean isThere = year >= 0 && year < YEARS && kind >= RETURN && kind < KINDS;
            return isThere ? numbers[year][kind] : 0;
        }

        long worthAt(int year) {
            return year >= 0 && year < YEARS ? worths[year] : 0;
        }

        long allowedFor(int year, int head) {
            int word = register.benchWords.lastKnown(firm, head, year, day);
            if (word != NONE) {
                return word;
            }
            Rule rule = ruleAt(year, ALLOW, head);
            return rule == null ? 0 : Sums.hundredths(toldBy(rule, year), rule.number);
        }

        /** What the mode of an "allow" tells, ahead of its hundredths. */
        private long toldBy(Rule rule, int year) {
            int decided = decidedOn(year);
            if (rule.mode == BY_PLAN) {
                int plan = register.facts.knownBy(firm, year, PLAN + rule.of, decided);
                return plan == NONE ? 0 : plan;
            }
            points.gather(firm, rule.of, year / REVIEW_YEARS, rule.driver);
            int x = register.facts.latestUpTo(firm, year, rule.driver, decided);
            switch (rule.mode) {
                case BY_LINE:
                    return points.lineTells(x);
                case BY_MEAN:
                    return points.meanTells(x);
                default:
                    return points.bestTells(x);
            }
        }

        /** Fills the LINES of the YEARS from one to another one. */
        void fillLines(int fromYear, int toYear) {
            for (int year = Math.max(0, fromYear - 1); year <= toYear && year < YEARS; year++) {
                for (int head = 0; head < HEADS; head++) {
                    allowedCoins[year][head] = allowedFor(year, head);
                }
            }
            for (int year = Math.max(0, fromYear); year <= toYear && year < YEARS; year++) {
                fillLinesOf(year);
            }
        }

        private void fillLinesOf(int year) {
            if (year < 0 || year >= YEARS) {
                return;
            }
            long[] row = lines[year];
            Arrays.fill(row, 0);
            long inAllHeads = 0;
            for (int head = 0; head < HEADS; head++) {
                row[head] = allowedCoins[year][head];
                inAllHeads += row[head];
            }
            row[LINE_RETURN] = Sums.cut(worths[year] * numberAt(year, RETURN), 1000);
            row[LINE_WORKS] = register.works.coinsDue(firm, year);
            row[LINE_BACK] = -takenBackIn(year);
            for (int output = 0; output < OUTPUTS && year > 0; output++) {
                row[LINE_EARNED + output] = earnedIn(year - 1, output);
            }
            for (int head = 0; head < HEADS && year > 0; head++) {
                row[LINE_SHARED + head] = sharedIn(year - 1, head);
            }
            long logged = register.logged.allKnown(firm, 0, year, day);
            boolean isEnough = logged >= Sums.hundredths(inAllHeads, numberAt(year, LOG));
            row[LINE_LOGGED] = isEnough ? logged : 0;
        }

        private long takenBackIn(int year) {
            long all = 0;
            for (int work = 0; work < register.works.told; work++) {
                if (register.works.isLate(work, firm, year)) {
                    all += takenBackOf(work, year);
                }
            }
            return all;
        }

        /** A WORK that is late in a YEAR was late in all YEARS since it was due. */
        private long takenBackOf(int work, int lastYear) {
            long coins = register.works.coinsOf(work);
            long left = coins;
            long back = 0;
            for (int year = register.works.dueOf(work) + 1; year <= lastYear; year++) {
                back = Math.min(left, Sums.hundredths(coins, numberAt(year, BACK)));
                left -= back;
            }
            return back;
        }

        private long earnedIn(int year, int output) {
            Rule target = ruleAt(year, TARGET, output);
            int known = register.facts.knownBy(firm, year, OUTPUT + output, day);
            return target == null || known == NONE ? 0 : target.earns(known);
        }

        private long sharedIn(int year, int head) {
            int cost = register.facts.knownBy(firm, year, COST + head, day);
            if (cost == NONE || year < 0 || year >= YEARS || head < 0 || head >= HEADS) {
                return 0;
            }
            long other = cost - allowedCoins[year][head];
            return other - bornePart(year, head, other);
        }

        /** What of OTHER the FIRM bears (above 0) or keeps (below 0). */
        private long bornePart(int year, int head, long other) {
            Rule share = ruleAt(year, SHARE, head);
            if (share == null) {
                return 0;
            }
            return Sums.hundredths(other, other > 0 ? share.number : share.second);
        }

        long lineAt(int year, int k) {
            return year >= 0 && year < YEARS && k >= 0 && k < LINES ? lines[year][k] : 0;
        }

        /** The REVENUE. */
        long allLines(int year) {
            long all = 0;
            for (int k = 0; k < LINES; k++) {
                all += lineAt(year, k);
            }
            return all;
        }

        /** Fills the BILLS from the REVIEW's first YEAR up to one. */
        void fillBills(int toYear) {
            int first = toYear - toYear % REVIEW_YEARS;
            fillLines(first, toYear);
            for (int year = Math.max(0, first); year <= toYear && year < YEARS; year++) {
                long wanted = allLines(year);
                if (year > first) {
                    wanted += carriedAt(year - 1);
                }
                boolean isTilted = year > first && year < first + REVIEW_YEARS - 1;
                yearBills[year] = isTilted ? tilted(year, wanted) : wanted;
                carriedOn[year] = wanted - yearBills[year];
            }
        }

        private long tilted(int year, long wanted) {
            int tilt = numberAt(year, TILT);
            if (tilt == NONE) {
                return wanted;
            }
            long ahead = billsAt(year - 1);
            long most = Sums.hundredths(ahead, 100 + tilt);
            long least = Sums.hundredths(ahead, 100 - tilt);
            // With BILLS below 0 ahead both can't be kept: the least goes first.
            return Math.max(least, Math.min(most, wanted));
        }

        long billsAt(int year) {
            return year >= 0 && year < YEARS ? yearBills[year] : 0;
        }

        long carriedAt(int year) {
            return year >= 0 && year < YEARS ? carriedOn[year] : 0;
        }

        boolean isByPlan(int year, int head) {
            Rule rule = ruleAt(year, ALLOW, head);
            return rule != null && rule.mode == BY_PLAN;
        }

        /** What the FIRM would keep with a COST, had its PLAN been this one. */
        long keptByPlan(int year, int head, long cost, long plan) {
            Rule rule = ruleAt(year, ALLOW, head);
            if (rule == null) {
                return 0;
            }
            return -bornePart(year, head, cost - Sums.hundredths(plan, rule.number));
        }

        /** What is BORNE in the YEARS of a REVIEW, from its first one. */
        long borneFrom(int first) {
            long all = 0;
            for (int year = Math.max(0, first); year < first + REVIEW_YEARS && year < YEARS; year++) {
                for (int head = 0; head < HEADS; head++) {
                    int cost = register.facts.knownBy(firm, year, COST + head, day);
                    if (cost != NONE) {
                        all += bornePart(year, head, cost - allowedFor(year, head));
                    }
                }
            }
            return all;
        }
    }
}
