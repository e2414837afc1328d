import java.util.NoSuchElementException;

/**
 * A form of lines with formulas and tables of rates, filed by taxpayers for years, assessed exactly, with
 * accounts of what was assessed, paid and charged.
 */
public final class FormOffice {
    private static final int LINES = 12;
    private static final int TABLES = 3;
    private static final int TAXPAYERS = 3;
    private static final int YEARS = 4;

    private static final int PAD_LENGTH = 40;
    private static final String FORMULA_CHARACTERS = "ABCDEFGHIJKL0123456789'+-*%<>?:(),mxt";

    private static final int MOST_FILED = 1000000000;
    private static final int MOST_PAID = 1000000000;
    private static final int MOST_INTEREST = 30;
    private static final int MOST_DAYS = 1000;

    private static final int TAX = 0;
    private static final int PAYMENT = 1;
    private static final int INTEREST = 2;
    private static final int NO_YEAR = -1;

    private final Text pad = new Text();
    /** A line whose text is empty is an input: no formula is empty. */
    private final Text[] formulas = new Text[LINES];
    /** For each line, a bit for each line that stands in its formula without '. */
    private final int[] needs = new int[LINES];
    private final Return[] returns = new Return[TAXPAYERS * YEARS];
    private final Account[] accounts = new Account[TAXPAYERS];
    private final Calculator calculator = new Calculator();
    /** Refilled by arrangeLines: kept only so that no call has to make a new row. */
    private final int[] arranged = new int[LINES];
    /** Values go here first, so that an assessment that ends by overflow leaves the latest one as it was. */
    private final long[] working = new long[LINES];
    private final long[] nothingBefore = new long[LINES];
    private int totalLine = LINES - 1;
    private int interestRate = 0;

    public FormOffice() {
        for (int i = 0; i < LINES; i++) {
            formulas[i] = new Text();
        }
        for (int i = 0; i < TAXPAYERS * YEARS; i++) {
            returns[i] = new Return();
        }
        for (int i = 0; i < TAXPAYERS; i++) {
            accounts[i] = new Account();
        }
    }

    public boolean type(char c) {
        if (FORMULA_CHARACTERS.indexOf(c) < 0 || pad.isFull()) {
            return false;
        }
        pad.append(c);
        return true;
    }

    public int clear() {
        int had = pad.length;
        pad.length = 0;
        return had;
    }

    public int define(int line) throws NoSuchElementException, IllegalArgumentException {
        requireLine(line);
        if (!calculator.isFormula(pad)) {
            throw new IllegalArgumentException("the text is no formula");
        }
        formulas[line].copy(pad);
        needs[line] = calculator.names;
        pad.length = 0;
        return Integer.bitCount(needs[line]);
    }

    public boolean input(int line) throws NoSuchElementException {
        requireLine(line);
        boolean hadFormula = hasFormula(line);
        formulas[line].length = 0;
        needs[line] = 0;
        return hadFormula;
    }

    public int total(int line) throws NoSuchElementException {
        requireLine(line);
        int was = totalLine;
        totalLine = line;
        return was;
    }

    public int bracket(int table, int beginning, int rate)
            throws NoSuchElementException, IllegalArgumentException, IllegalStateException {
        requireTable(table);
        Table changed = calculator.tables[table];
        if (!changed.allowsBeginning(beginning) || rate < 0 || rate > Table.WHOLE) {
            throw new IllegalArgumentException("no such beginning or rate");
        }
        if (changed.isFull()) {
            throw new IllegalStateException("the table is full");
        }
        changed.append(beginning, rate);
        return changed.size;
    }

    public int reset(int table, int rounding) throws NoSuchElementException, IllegalArgumentException {
        requireTable(table);
        if (rounding < Table.DOWN || rounding > Table.HALVES_EVEN) {
            throw new IllegalArgumentException("no such rounding");
        }
        Table changed = calculator.tables[table];
        int had = changed.size;
        changed.size = 0;
        changed.rounding = rounding;
        return had;
    }

    public int order(int place) throws IllegalArgumentException, IllegalStateException {
        if (place < 0 || place >= LINES) {
            throw new IllegalArgumentException("no such place");
        }
        if (place >= arrangeLines()) {
            throw new IllegalStateException("the order does not go so far");
        }
        return arranged[place];
    }

    public int file(int taxpayer, int year, int line, int v) throws NoSuchElementException, IllegalArgumentException {
        requireReturn(taxpayer, year);
        requireLine(line);
        if (hasFormula(line) || v < -MOST_FILED || v > MOST_FILED) {
            throw new IllegalArgumentException("the line has a formula, or the number is too large");
        }
        Return filed = returnOf(taxpayer, year);
        int was = filed.numbers[line];
        filed.numbers[line] = v;
        return was;
    }

    public long assess(int taxpayer, int year)
            throws NoSuchElementException, IllegalStateException, ArithmeticException {
        requireReturn(taxpayer, year);
        Account account = accounts[taxpayer];
        if (arrangeLines() < LINES || account.isFull()) {
            throw new IllegalStateException("the form is a ring, or the account is full");
        }
        Return assessed = returnOf(taxpayer, year);
        if (!workOut(assessed, year == 0 ? nothingBefore : returnOf(taxpayer, year - 1).values)) {
            throw new ArithmeticException("overflow");
        }
        long due = working[totalLine];
        account.post(TAX, year, due - assessed.due);
        assessed.keep(working, due);
        return due;
    }

    public long value(int taxpayer, int year, int line) throws NoSuchElementException, IllegalStateException {
        requireReturn(taxpayer, year);
        requireLine(line);
        requireAssessed(taxpayer, year);
        return returnOf(taxpayer, year).values[line];
    }

    public double share(int taxpayer, int year, int line) throws NoSuchElementException, IllegalStateException {
        requireReturn(taxpayer, year);
        requireLine(line);
        requireAssessed(taxpayer, year);
        Return assessed = returnOf(taxpayer, year);
        if (assessed.due == 0) {
            return 0.0;
        }
        return (double) assessed.values[line] / (double) assessed.due;
    }

    public long pay(int taxpayer, int amount)
            throws NoSuchElementException, IllegalArgumentException, IllegalStateException {
        requireTaxpayer(taxpayer);
        if (amount < 1 || amount > MOST_PAID) {
            throw new IllegalArgumentException("no such amount");
        }
        Account account = accounts[taxpayer];
        if (account.isFull()) {
            throw new IllegalStateException("the account is full");
        }
        account.post(PAYMENT, NO_YEAR, -amount);
        return account.sum;
    }

    public int interest(int rate) throws IllegalArgumentException {
        if (rate < 0 || rate > MOST_INTEREST) {
            throw new IllegalArgumentException("no such rate");
        }
        int was = interestRate;
        interestRate = rate;
        return was;
    }

    public int pass(int days) throws IllegalArgumentException, IllegalStateException {
        if (days < 1 || days > MOST_DAYS) {
            throw new IllegalArgumentException("no such number of days");
        }
        int rateTimesDays = interestRate * days;
        // All accounts are looked at before the first posting, for a refused call changes nothing.
        for (Account account : accounts) {
            if (account.isFull() && account.interestFor(rateTimesDays) != 0) {
                throw new IllegalStateException("an account is full");
            }
        }
        int posted = 0;
        for (Account account : accounts) {
            long charged = account.interestFor(rateTimesDays);
            if (charged != 0) {
                account.post(INTEREST, NO_YEAR, charged);
                posted++;
            }
        }
        return posted;
    }

    public long balance(int taxpayer) throws NoSuchElementException {
        requireTaxpayer(taxpayer);
        return accounts[taxpayer].sum;
    }

    public long posting(int taxpayer, int i, int what) throws NoSuchElementException, IllegalArgumentException {
        requireTaxpayer(taxpayer);
        Account account = accounts[taxpayer];
        if (i < 0 || i >= account.size || what < 0 || what > 2) {
            throw new IllegalArgumentException("no such posting or what");
        }
        if (what == 0) {
            return account.kinds[i];
        }
        return what == 1 ? account.years[i] : account.amounts[i];
    }

    private static void requireLine(int line) {
        if (line < 0 || line >= LINES) {
            throw new NoSuchElementException("no such line");
        }
    }

    private static void requireTable(int table) {
        if (table < 0 || table >= TABLES) {
            throw new NoSuchElementException("no such table");
        }
    }

    private static void requireTaxpayer(int taxpayer) {
        if (taxpayer < 0 || taxpayer >= TAXPAYERS) {
            throw new NoSuchElementException("no such taxpayer");
        }
    }

    private static void requireReturn(int taxpayer, int year) {
        requireTaxpayer(taxpayer);
        if (year < 0 || year >= YEARS) {
            throw new NoSuchElementException("no such year");
        }
    }

    private void requireAssessed(int taxpayer, int year) {
        if (!returnOf(taxpayer, year).wasAssessed) {
            throw new IllegalStateException("the return was not assessed");
        }
    }

    private Return returnOf(int taxpayer, int year) {
        return returns[taxpayer * YEARS + year];
    }

    private boolean hasFormula(int line) {
        return formulas[line].length > 0;
    }

    /** Puts the lines into their order: how many come into it. */
    private int arrangeLines() {
        int placed = 0;
        for (int place = 0; place < LINES; place++) {
            int line = lowestReady(placed);
            if (line == LINES) {
                return place;
            }
            arranged[place] = line;
            placed |= 1 << line;
        }
        return LINES;
    }

    /** The lowest line that is not placed and needs only placed ones; LINES if there is none. */
    private int lowestReady(int placed) {
        for (int line = 0; line < LINES; line++) {
            if ((placed & (1 << line)) == 0 && (needs[line] & ~placed) == 0) {
                return line;
            }
        }
        return LINES;
    }

    /** Works out all lines of a return, in the order that was arranged: whether there was no overflow. */
    private boolean workOut(Return worked, long[] before) {
        for (int line : arranged) {
            if (!hasFormula(line)) {
                working[line] = worked.numbers[line];
            } else {
                working[line] = calculator.work(formulas[line], working, before);
                if (calculator.overflow) {
                    return false;
                }
            }
        }
        return true;
    }

    /** Whether a quotient's rest carries it up to the next whole number, with halves to the even one. */
    private static boolean carriesToEven(long lower, long rest, long half) {
        return rest > half || rest == half && (lower & 1) != 0;
    }

    /** The characters of the pad, or of a line's formula. */
    private static final class Text {
        final char[] characters = new char[PAD_LENGTH];
        int length = 0;

        boolean isFull() {
            return length >= PAD_LENGTH;
        }

        void append(char c) {
            characters[length] = c;
            length++;
        }

        void copy(Text other) {
            System.arraycopy(other.characters, 0, characters, 0, other.length);
            length = other.length;
        }
    }

    /** A table of rates, in thousandths. */
    private static final class Table {
        static final int DOWN = 0;
        static final int HALVES_UP = 1;
        static final int HALVES_EVEN = 2;
        static final int WHOLE = 1000;

        private static final int BRACKETS = 4;
        private static final int LAST_BEGINNING = 1000000000;

        private final int[] beginnings = new int[BRACKETS];
        private final int[] rates = new int[BRACKETS];
        int size = 0;
        int rounding = DOWN;

        boolean isFull() {
            return size >= BRACKETS;
        }

        boolean allowsBeginning(int beginning) {
            return beginning >= 0 && beginning <= LAST_BEGINNING && (size == 0 || beginning > beginnings[size - 1]);
        }

        void append(int beginning, int rate) {
            beginnings[size] = beginning;
            rates[size] = rate;
            size++;
        }

        /** What the table makes of an amount: no more than it, or 0, so that it needs no look for overflow. */
        long makeOf(long amount) {
            long thousandths = 0;
            for (int i = 0; i < size; i++) {
                long end = i + 1 < size ? Math.min(amount, beginnings[i + 1]) : amount;
                if (end > beginnings[i]) {
                    thousandths += rates[i] * (end - beginnings[i]);
                }
            }
            return rounded(thousandths);
        }

        private long rounded(long thousandths) {
            long lower = thousandths / WHOLE;
            long rest = thousandths % WHOLE;
            boolean carries = rounding == HALVES_UP && rest >= WHOLE / 2
                    || rounding == HALVES_EVEN && carriesToEven(lower, rest, WHOLE / 2);
            return carries ? lower + 1 : lower;
        }
    }

    /** What a taxpayer filed for a year, and what the latest assessment of it made. */
    private static final class Return {
        final int[] numbers = new int[LINES];
        /** All 0 before the first assessment, as a name with ' asks. */
        final long[] values = new long[LINES];
        long due = 0;
        boolean wasAssessed = false;

        void keep(long[] worked, long total) {
            System.arraycopy(worked, 0, values, 0, LINES);
            due = total;
            wasAssessed = true;
        }
    }

    /** A taxpayer's postings. */
    private static final class Account {
        private static final int POSTINGS = 24;
        private static final int HUNDREDTHS_TIMES_DAYS = 36500;

        final int[] kinds = new int[POSTINGS];
        final int[] years = new int[POSTINGS];
        final long[] amounts = new long[POSTINGS];
        int size = 0;
        long sum = 0;

        boolean isFull() {
            return size >= POSTINGS;
        }

        void post(int kind, int year, long amount) {
            kinds[size] = kind;
            years[size] = year;
            amounts[size] = amount;
            size++;
            sum += amount;
        }

        /** Quotient and rest are charged apart: sums near 10^18 can come up, and their product is no long. */
        long interestFor(int rateTimesDays) {
            if (sum <= 0) {
                return 0;
            }
            long rest = sum % HUNDREDTHS_TIMES_DAYS * rateTimesDays / HUNDREDTHS_TIMES_DAYS;
            return sum / HUNDREDTHS_TIMES_DAYS * rateTimesDays + rest;
        }
    }

    /**
     * Reads a formula's text from the left and works it out on the way. What is read but not worked out (the
     * formula that a condition leaves aside, or a text that is only tried) is not LIVE: it can't overflow.
     */
    private static final class Calculator {
        private static final int DEEPEST = 4;
        private static final int NUMBER_DIGITS = 6;
        private static final int PERCENT_DIGITS = 3;
        private static final long LARGEST = 1000000000000L;
        /** Each formula in another one takes a character before it, so that none in a pad goes deeper. */
        private static final int MOST_LEVELS = PAD_LENGTH;

        /** Stands behind a text; no formula has it. */
        private static final char END = 0;

        final Table[] tables = new Table[TABLES];
        private final long[] noValues = new long[LINES];
        private Text text = new Text();
        private int at = 0;
        private boolean wrong = false;
        private long[] values = noValues;
        private long[] before = noValues;
        /** A bit for each line that was read without '. */
        int names = 0;
        boolean overflow = false;

        Calculator() {
            for (int i = 0; i < TABLES; i++) {
                tables[i] = new Table();
            }
        }

        boolean isFormula(Text tried) {
            begin(tried, noValues, noValues);
            readFormula(0, 0, false);
            return !wrong && at == tried.length;
        }

        long work(Text formula, long[] valuesNow, long[] valuesBefore) {
            begin(formula, valuesNow, valuesBefore);
            return readFormula(0, 0, true);
        }

        private void begin(Text read, long[] valuesNow, long[] valuesBefore) {
            text = read;
            at = 0;
            wrong = false;
            values = valuesNow;
            before = valuesBefore;
            names = 0;
            overflow = false;
        }

        private long readFormula(int depth, int level, boolean live) {
            if (level > MOST_LEVELS) {
                return refuse();
            }
            long left = readSum(depth, level, live);
            boolean less = take('<');
            if (!less && !take('>')) {
                return left;
            }
            long right = readSum(depth, level, live);
            boolean holds = less ? left < right : left > right;
            expect('?');
            long first = readFormula(depth, level + 1, live && holds);
            expect(':');
            long second = readFormula(depth, level + 1, live && !holds);
            return holds ? first : second;
        }

        private long readSum(int depth, int level, boolean live) {
            long sum = readPart(depth, level, live);
            for (int i = 0; i < PAD_LENGTH; i++) {
                if (take('+')) {
                    sum = checked(sum + readPart(depth, level, live), live);
                } else if (take('-')) {
                    sum = checked(sum - readPart(depth, level, live), live);
                } else {
                    break;
                }
            }
            return sum;
        }

        private long readPart(int depth, int level, boolean live) {
            long unit = readUnit(depth, level, live);
            if (!take('*')) {
                return unit;
            }
            long hundredths = unit * readNumber(PERCENT_DIGITS);
            expect('%');
            long lower = Math.floorDiv(hundredths, 100L);
            long rest = Math.floorMod(hundredths, 100L);
            return checked(carriesToEven(lower, rest, 50) ? lower + 1 : lower, live);
        }

        private long readUnit(int depth, int level, boolean live) {
            char c = next();
            if (c >= 'A' && c <= 'L') {
                return readName(c - 'A');
            }
            if (isDigit(c)) {
                return readNumber(NUMBER_DIGITS);
            }
            if (depth >= DEEPEST) {
                return refuse();
            }
            if (c == '(') {
                return readInBrackets(depth + 1, level + 1, live);
            }
            if (c == 'm' || c == 'x') {
                return readOneOfTwo(depth + 1, level + 1, live);
            }
            return c == 't' ? readTable(depth + 1, level + 1, live) : refuse();
        }

        private long readName(int line) {
            at++;
            if (take('\'')) {
                return before[line];
            }
            names |= 1 << line;
            return values[line];
        }

        private long readNumber(int mostDigits) {
            if (!isDigit(next())) {
                return refuse();
            }
            long number = 0;
            for (int i = 0; i < mostDigits && isDigit(next()); i++) {
                number = number * 10 + (next() - '0');
                at++;
            }
            return number;
        }

        private long readInBrackets(int depth, int level, boolean live) {
            expect('(');
            long inside = readFormula(depth, level, live);
            expect(')');
            return inside;
        }

        private long readOneOfTwo(int depth, int level, boolean live) {
            boolean lesser = next() == 'm';
            at++;
            expect('(');
            long first = readFormula(depth, level, live);
            expect(',');
            long second = readFormula(depth, level, live);
            expect(')');
            return lesser ? Math.min(first, second) : Math.max(first, second);
        }

        private long readTable(int depth, int level, boolean live) {
            at++;
            int table = next() - '0';
            if (table < 0 || table >= TABLES) {
                return refuse();
            }
            at++;
            return tables[table].makeOf(readInBrackets(depth, level, live));
        }

        /** A text that went wrong has no further characters, so that all reading ends soon. */
        private char next() {
            return wrong || at >= text.length ? END : text.characters[at];
        }

        private boolean take(char c) {
            if (next() != c) {
                return false;
            }
            at++;
            return true;
        }

        private void expect(char c) {
            if (!take(c)) {
                wrong = true;
            }
        }

        private long refuse() {
            wrong = true;
            return 0;
        }

        private long checked(long worked, boolean live) {
            if (worked >= -LARGEST && worked <= LARGEST) {
                return worked;
            }
            overflow = overflow || live;
            return 0;
        }

        private static boolean isDigit(char c) {
            return c >= '0' && c <= '9';
        }
    }
}
