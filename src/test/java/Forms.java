/** What tests do with forms again and again. */
final class Forms {
    private Forms() {
    }

    static void type(FormOffice office, String text) {
        for (char c : text.toCharArray()) {
            if (!office.type(c)) {
                throw new AssertionError("type refused " + c + " of " + text);
            }
        }
    }

    static int define(FormOffice office, int line, String text) {
        type(office, text);
        return office.define(line);
    }

    /** The value of a formula in line L, with these numbers in the lines A, B, .. of a return for year 0. */
    static long worked(FormOffice office, String formula, int... numbers) {
        for (int line = 0; line < numbers.length; line++) {
            office.file(0, 0, line, numbers[line]);
        }
        define(office, 11, formula);
        return office.assess(0, 0);
    }

    static long worked(String formula, int... numbers) {
        return worked(new FormOffice(), formula, numbers);
    }

    static FormOffice withTable(int table, int rounding, int... beginningsAndRates) {
        FormOffice office = new FormOffice();
        office.reset(table, rounding);
        for (int i = 0; i < beginningsAndRates.length; i += 2) {
            office.bracket(table, beginningsAndRates[i], beginningsAndRates[i + 1]);
        }
        return office;
    }

    /** An account of taxpayer 0 with so many postings of 0. */
    static FormOffice withPostings(int postings) {
        FormOffice office = new FormOffice();
        for (int i = 0; i < postings; i++) {
            office.assess(0, 0);
        }
        return office;
    }
}
