/** What tests do with forms again and again. */
final class Forms {
    private Forms() {
    }

    static void type(FormOffice office, String text) {
        for (char c : text.toCharArray()) {
            if (!office.type(c)) {
                throw new AssertionError("type refused " + c + " of " + text);
            }
        }
    }

    static int define(FormOffice office, int line, String text) {
        type(office, text);
        return office.define(line);
    }

    /** The value of a formula in line L, with these numbers in the lines A, B, .. of a return for year 0. */
    static long worked(FormOffice office, String formula, int... numbers) {
        for (int line = 0; line < numbers.length; line++) {
            office.file(0, 0, line, numbers[line]);
        }
        define(office, 11, formula);
        return office.assess(0, 0);
    }

    static long worked(String formula, int... numbers) {
        return worked(new FormOffice(), formula, numbers);
    }

    static FormOffice withTable(int table, int rounding, int... beginningsAndRates) {
        FormOffice office = new FormOffice();
        office.reset(table, rounding);
        for (int i = 0; i < beginningsAndRates.length; i += 2) {
            office.bracket(table, beginningsAndRates[i], beginningsAndRates[i + 1]);
        }
        return office;
    }

    /** An account of taxpayer 0 with so many postings of 0. */
    static FormOffice withPostings(int postings) {
        FormOffice office = new FormOffice();
        for (int i = 0; i < postings; i++) {
            office.assess(0, 0);
        }
        return office;
    }

    /** B is ten times A, C ten times B and D ten times C: with 1000000000 in A, D has the largest value. */
    static void makeLarge(FormOffice office, int a) {
        define(office, 1, "A*500%+A*500%");
        define(office, 2, "B*500%+B*500%");
        define(office, 3, "C*500%+C*500%");
        office.file(0, 0, 0, a);
    }

    /** Something of all that an office holds, so that a trace of a refused call has where to show. */
    static void makeBusy(FormOffice office) {
        fillTables(office);
        define(office, 2, "A+B*50%");
        define(office, 3, "x(C-5,0)");
        define(office, 11, "t0(D)+t1(A)+L'*10%");
        for (int i = 0; i < 6; i++) {
            office.file(i / 2, i % 2, 0, 1000 + 700 * i);
            office.file(i / 2, i % 2, 1, 500 - 130 * i);
        }
        office.assess(0, 0);
        office.assess(0, 1);
        office.assess(1, 0);
        office.assess(2, 1);
        office.pay(0, 50);
        office.pay(2, 70);
        office.interest(12);
        office.pass(400);
        office.interest(7);
        type(office, "B-");
    }

    private static void fillTables(FormOffice office) {
        office.reset(0, 1);
        office.bracket(0, 0, 105);
        office.bracket(0, 1000, 255);
        office.bracket(0, 3000, 405);
        office.reset(1, 2);
        office.bracket(1, 10, 100);
        office.bracket(1, 20, 300);
        office.bracket(1, 30, 500);
        office.bracket(1, 40, 700);
    }

    /** An account is full with 24 postings; this one has fewer, and gets differences of 0 until it has so many. */
    static void fillAccount(FormOffice office, int taxpayer, int postings) {
        int has = 0;
        while (has < postings && hasPosting(office, taxpayer, has)) {
            has++;
        }
        for (int i = has; i < postings; i++) {
            office.assess(taxpayer, 0);
        }
    }

    private static boolean hasPosting(FormOffice office, int taxpayer, int i) {
        try {
            office.posting(taxpayer, i, 0);
            return true;
        } catch (IllegalArgumentException e) {
            return false;
        }
    }
}
