import java.util.NoSuchElementException;

/**
 * "a call ends by the first of these that holds: NoSuchElementException .. ; IllegalArgumentException, then
 * IllegalStateException, then ArithmeticException": each call that could end by more than one of them.
 */
public final class ExceptionOrderTest {
    private static final Check CHECK = new Check();
    private static final Boundary BOUNDARY = new Boundary(CHECK);
    private static final Class<? extends Exception> NO_SUCH = NoSuchElementException.class;
    private static final Class<? extends Exception> ARGUMENT = IllegalArgumentException.class;
    private static final Class<? extends Exception> STATE = IllegalStateException.class;
    private static final Class<? extends Exception> ARITHMETIC = ArithmeticException.class;
    private static final int MOST = 1000000000;

    public static void main(String[] args) {
        define();
        bracketOfNoTable();
        bracketOfAFullTable();
        reset();
        order();
        fileOfNoReturnOrLine();
        fileOfAFormula();
        assessOfNoReturn();
        assessInARingOrFull();
        valueAndShare();
        pay();
        pass();
        posting();
        CHECK.done();
    }

    private static Boundary.Calls busyAnd(Boundary.Calls more) {
        return office -> {
            Forms.makeBusy(office);
            office.clear();
            more.on(office);
        };
    }

    private static void define() {
        for (int line : new int[] {-1, 12}) {
            BOUNDARY.refused("no line, empty pad", NO_SUCH, busyAnd(office -> { }), office -> office.define(line));
            BOUNDARY.refused("no line, no formula", NO_SUCH, busyAnd(office -> Forms.type(office, "A+")),
                    office -> office.define(line));
            BOUNDARY.refused("no line, a formula", NO_SUCH, busyAnd(office -> Forms.type(office, "A+B")),
                    office -> office.define(line));
        }
        for (int line : new int[] {0, 11}) {
            BOUNDARY.refused("a line, empty pad", ARGUMENT, busyAnd(office -> { }), office -> office.define(line));
            BOUNDARY.refused("a line, no formula", ARGUMENT, busyAnd(office -> Forms.type(office, "A+")),
                    office -> office.define(line));
        }
    }

    private static void fillTables(FormOffice office) {
        for (int i = 0; i < 12; i++) {
            office.reset(i / 4, 0);
        }
        for (int i = 0; i < 12; i++) {
            office.bracket(i / 4, 100 + i % 4, 500);
        }
    }

    private static void bracketOfNoTable() {
        for (int table : new int[] {-1, 3}) {
            BOUNDARY.refused("no table alone", NO_SUCH, Forms::makeBusy, office -> office.bracket(table, 5000, 5));
            BOUNDARY.refused("no table, beginning", NO_SUCH, Forms::makeBusy, office -> office.bracket(table, -1, 5));
            BOUNDARY.refused("no table, beginning too large", NO_SUCH, Forms::makeBusy,
                    office -> office.bracket(table, MOST + 1, 5));
            BOUNDARY.refused("no table, rate", NO_SUCH, Forms::makeBusy, office -> office.bracket(table, 5000, 1001));
            BOUNDARY.refused("no table, rate too small", NO_SUCH, Forms::makeBusy,
                    office -> office.bracket(table, 5000, -1));
            BOUNDARY.refused("no table, all full", NO_SUCH, busyAnd(ExceptionOrderTest::fillTables),
                    office -> office.bracket(table, 5000, 5));
            BOUNDARY.refused("no table, all full, beginning and rate", NO_SUCH,
                    busyAnd(ExceptionOrderTest::fillTables), office -> office.bracket(table, 0, 1001));
        }
    }

    private static void bracketOfAFullTable() {
        for (int i = 0; i < 3; i++) {
            int table = i;
            Boundary.Calls full = busyAnd(ExceptionOrderTest::fillTables);
            BOUNDARY.refused("full", STATE, full, office -> office.bracket(table, 104, 0));
            BOUNDARY.refused("full, largest", STATE, full, office -> office.bracket(table, MOST, 1000));
            BOUNDARY.refused("full, not above", ARGUMENT, full, office -> office.bracket(table, 103, 0));
            BOUNDARY.refused("full, too small", ARGUMENT, full, office -> office.bracket(table, -1, 0));
            BOUNDARY.refused("full, too large", ARGUMENT, full, office -> office.bracket(table, MOST + 1, 0));
            BOUNDARY.refused("full, rate too small", ARGUMENT, full, office -> office.bracket(table, 104, -1));
            BOUNDARY.refused("full, rate too large", ARGUMENT, full, office -> office.bracket(table, 104, 1001));
        }
    }

    private static void reset() {
        for (int table : new int[] {-1, 3}) {
            for (int rounding : new int[] {-1, 0, 2, 3}) {
                BOUNDARY.refused("no table, rounding " + rounding, NO_SUCH, Forms::makeBusy,
                        office -> office.reset(table, rounding));
            }
        }
        BOUNDARY.refused("a table, rounding too large", ARGUMENT, Forms::makeBusy, office -> office.reset(1, 3));
        BOUNDARY.refused("a table, rounding too small", ARGUMENT, Forms::makeBusy, office -> office.reset(1, -1));
    }

    private static void order() {
        Boundary.Calls ring = busyAnd(office -> Forms.define(office, 0, "A"));
        BOUNDARY.refused("too small, in a ring", ARGUMENT, ring, office -> office.order(-1));
        BOUNDARY.refused("too large, in a ring", ARGUMENT, ring, office -> office.order(12));
        BOUNDARY.refused("in a ring", STATE, ring, office -> office.order(11));
    }

    private static void fileOfNoReturnOrLine() {
        for (int v : new int[] {5, MOST + 1, -MOST - 1}) {
            for (int line : new int[] {0, 11}) {
                BOUNDARY.refused("taxpayer -1", NO_SUCH, Forms::makeBusy, office -> office.file(-1, 0, line, v));
                BOUNDARY.refused("taxpayer 3", NO_SUCH, Forms::makeBusy, office -> office.file(3, 0, line, v));
                BOUNDARY.refused("year -1", NO_SUCH, Forms::makeBusy, office -> office.file(0, -1, line, v));
                BOUNDARY.refused("year 4", NO_SUCH, Forms::makeBusy, office -> office.file(0, 4, line, v));
            }
            BOUNDARY.refused("line -1", NO_SUCH, Forms::makeBusy, office -> office.file(0, 0, -1, v));
            BOUNDARY.refused("line 12", NO_SUCH, Forms::makeBusy, office -> office.file(0, 0, 12, v));
            BOUNDARY.refused("none of all", NO_SUCH, Forms::makeBusy, office -> office.file(3, 4, 12, v));
        }
    }

    private static void fileOfAFormula() {
        BOUNDARY.refused("a formula", ARGUMENT, Forms::makeBusy, office -> office.file(0, 0, 11, 5));
        BOUNDARY.refused("v", ARGUMENT, Forms::makeBusy, office -> office.file(0, 0, 0, MOST + 1));
        BOUNDARY.refused("a formula, v", ARGUMENT, Forms::makeBusy, office -> office.file(0, 0, 11, MOST + 1));
    }

    /** Line K overflows in all returns; the accounts have so many postings. */
    private static void makeOverflow(FormOffice office, int postings) {
        for (int taxpayer = 0; taxpayer < 3; taxpayer++) {
            Forms.fillAccount(office, taxpayer, postings);
        }
        Forms.define(office, 4, "999999*999%");
        Forms.define(office, 5, "E*999%");
        Forms.define(office, 6, "F*999%");
        Forms.define(office, 7, "G*999%");
        Forms.define(office, 8, "H*999%");
        Forms.define(office, 9, "I*999%");
        Forms.define(office, 10, "J*999%");
    }

    private static void makeRing(FormOffice office) {
        Forms.define(office, 3, "D");
    }

    private static void assessOfNoReturn() {
        Boundary.Calls[] all = {
            Forms::makeBusy, ExceptionOrderTest::makeRing, office -> makeOverflow(office, 5),
            office -> makeOverflow(office, 24), office -> {
                makeOverflow(office, 24);
                makeRing(office);
            },
        };
        for (Boundary.Calls before : all) {
            BOUNDARY.refused("taxpayer -1", NO_SUCH, before, office -> office.assess(-1, 0));
            BOUNDARY.refused("taxpayer 3", NO_SUCH, before, office -> office.assess(3, 0));
            BOUNDARY.refused("year -1", NO_SUCH, before, office -> office.assess(0, -1));
            BOUNDARY.refused("year 4", NO_SUCH, before, office -> office.assess(0, 4));
            BOUNDARY.refused("neither", NO_SUCH, before, office -> office.assess(3, 4));
        }
    }

    private static void assessInARingOrFull() {
        BOUNDARY.refused("overflow", ARITHMETIC, office -> makeOverflow(office, 5), office -> office.assess(0, 0));
        BOUNDARY.refused("overflow, one posting less than full", ARITHMETIC, office -> makeOverflow(office, 23),
                office -> office.assess(0, 0));
        BOUNDARY.refused("full, overflow", STATE, office -> makeOverflow(office, 24), office -> office.assess(0, 0));
        BOUNDARY.refused("ring, overflow", STATE, office -> {
            makeOverflow(office, 5);
            makeRing(office);
        }, office -> office.assess(0, 0));
        BOUNDARY.refused("ring, full, overflow", STATE, office -> {
            makeOverflow(office, 24);
            makeRing(office);
        }, office -> office.assess(0, 0));
    }

    private static void valueAndShare() {
        for (int line : new int[] {-1, 12}) {
            BOUNDARY.refused("value, not assessed", NO_SUCH, Forms::makeBusy, office -> office.value(1, 3, line));
            BOUNDARY.refused("share, not assessed", NO_SUCH, Forms::makeBusy, office -> office.share(1, 3, line));
            BOUNDARY.refused("value, assessed", NO_SUCH, Forms::makeBusy, office -> office.value(0, 0, line));
            BOUNDARY.refused("share, assessed", NO_SUCH, Forms::makeBusy, office -> office.share(0, 0, line));
        }
        for (int line : new int[] {0, 11}) {
            BOUNDARY.refused("value, not assessed", STATE, Forms::makeBusy, office -> office.value(1, 3, line));
            BOUNDARY.refused("share, not assessed", STATE, Forms::makeBusy, office -> office.share(1, 3, line));
            BOUNDARY.refused("value, no year", NO_SUCH, office -> { }, office -> office.value(0, 4, line));
            BOUNDARY.refused("share, no year", NO_SUCH, office -> { }, office -> office.share(0, -1, line));
            BOUNDARY.refused("value, no taxpayer", NO_SUCH, office -> { }, office -> office.value(-1, 0, line));
            BOUNDARY.refused("share, no taxpayer", NO_SUCH, office -> { }, office -> office.share(3, 0, line));
        }
    }

    private static void pay() {
        Boundary.Calls full = office -> {
            for (int taxpayer = 0; taxpayer < 3; taxpayer++) {
                Forms.fillAccount(office, taxpayer, 24);
            }
        };
        for (int amount : new int[] {0, 1, MOST, MOST + 1}) {
            BOUNDARY.refused("taxpayer -1, " + amount, NO_SUCH, full, office -> office.pay(-1, amount));
            BOUNDARY.refused("taxpayer 3, " + amount, NO_SUCH, full, office -> office.pay(3, amount));
            BOUNDARY.refused("full, " + amount, amount == 1 || amount == MOST ? STATE : ARGUMENT, full,
                    office -> office.pay(2, amount));
        }
    }

    private static void pass() {
        Boundary.Calls full = office -> {
            office.file(2, 0, 11, MOST);
            Forms.fillAccount(office, 2, 24);
            office.interest(30);
        };
        for (int days : new int[] {0, 1, 1000, 1001}) {
            BOUNDARY.refused("full, " + days, days == 1 || days == 1000 ? STATE : ARGUMENT, full,
                    office -> office.pass(days));
        }
    }

    private static void posting() {
        for (int taxpayer : new int[] {-1, 3}) {
            BOUNDARY.refused("no taxpayer", NO_SUCH, Forms::makeBusy, office -> office.posting(taxpayer, 0, 0));
            BOUNDARY.refused("nor posting", NO_SUCH, Forms::makeBusy, office -> office.posting(taxpayer, 24, 0));
            BOUNDARY.refused("nor what", NO_SUCH, Forms::makeBusy, office -> office.posting(taxpayer, 0, 3));
            BOUNDARY.refused("nor both", NO_SUCH, Forms::makeBusy, office -> office.posting(taxpayer, -1, -1));
        }
        BOUNDARY.refused("no posting, what", ARGUMENT, Forms::makeBusy, office -> office.posting(0, -1, 3));
    }
}
