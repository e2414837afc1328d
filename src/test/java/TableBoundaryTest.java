import java.util.NoSuchElementException;

/** Boundaries of tables: promises 7 (bracket) and 8 (reset), and the terms on what a table makes of a value. */
public final class TableBoundaryTest {
    private static final Check CHECK = new Check();
    private static final Boundary BOUNDARY = new Boundary(CHECK);
    private static final int LAST_BEGINNING = 1000000000;

    public static void main(String[] args) {
        tablesAreZeroToTwo();
        beginningsAreZeroToABillion();
        beginningsGoUp();
        noBeginningIsAboveTheLast();
        refusedBeginningIsNotTheOneBefore();
        ratesAreZeroToAThousand();
        tableHasAtMostFourBrackets();
        roundingsAreZeroToTwo();
        resetTellsHowManyThereWere();
        emptyTableMakesNothing();
        bracketsBeginAndEnd();
        lastBracketHasNoEnd();
        roundsDown();
        roundsHalvesUp();
        roundsHalvesToTheEvenOne();
        roundsOnce();
        CHECK.done();
    }

    private static void makes(long due, int v, int rounding, int... beginningsAndRates) {
        FormOffice office = Forms.withTable(0, rounding, beginningsAndRates);
        CHECK.same("of " + v + " with rounding " + rounding, due, Forms.worked(office, "t0(A)", v));
    }

    /** "TABLES 0 .. 2". */
    private static void tablesAreZeroToTwo() {
        BOUNDARY.range("bracket of table", 0, 2, NoSuchElementException.class, office -> {
            Forms.makeBusy(office);
            office.reset(1, 1);
        }, (office, table) -> office.bracket(table, 5000, 500));
        BOUNDARY.range("reset of table", 0, 2, NoSuchElementException.class, Forms::makeBusy,
                (office, table) -> office.reset(table, 1));
    }

    /** "beginning is not 0 .. 1000000000". */
    private static void beginningsAreZeroToABillion() {
        BOUNDARY.range("first beginning", 0, LAST_BEGINNING, IllegalArgumentException.class, Forms::makeBusy,
                (office, beginning) -> office.bracket(2, beginning, 500));
        BOUNDARY.range("fourth beginning", 3001, LAST_BEGINNING, IllegalArgumentException.class, Forms::makeBusy,
                (office, beginning) -> office.bracket(0, beginning, 500));
        makes(999999999, 999999999, 0, 0, 1000, LAST_BEGINNING, 0);
        makes(LAST_BEGINNING, LAST_BEGINNING, 0, 0, 1000, LAST_BEGINNING, 0);
    }

    /** "or not above that of the one before". */
    private static void beginningsGoUp() {
        Boundary.Calls hundred = office -> {
            Forms.makeBusy(office);
            office.bracket(2, 100, 500);
        };
        BOUNDARY.refused("below", IllegalArgumentException.class, hundred, office -> office.bracket(2, 99, 500));
        BOUNDARY.refused("the same", IllegalArgumentException.class, hundred, office -> office.bracket(2, 100, 500));
        BOUNDARY.refused("0", IllegalArgumentException.class, hundred, office -> office.bracket(2, 0, 500));
        BOUNDARY.taken("above", 2, hundred, office -> office.bracket(2, 101, 500));
        BOUNDARY.taken("lower in another table", 1, office -> office.bracket(0, 100, 500),
                office -> office.bracket(1, 99, 500));
        BOUNDARY.refused("0 behind 0", IllegalArgumentException.class, office -> office.bracket(0, 0, 500),
                office -> office.bracket(0, 0, 500));
        BOUNDARY.taken("1 behind 0", 2, office -> office.bracket(0, 0, 500), office -> office.bracket(0, 1, 500));
    }

    private static void noBeginningIsAboveTheLast() {
        Boundary.Calls last = office -> office.bracket(0, LAST_BEGINNING, 500);
        BOUNDARY.refused("the last again", IllegalArgumentException.class, last,
                office -> office.bracket(0, LAST_BEGINNING, 500));
        BOUNDARY.refused("above the last", IllegalArgumentException.class, last,
                office -> office.bracket(0, LAST_BEGINNING + 1, 500));
        BOUNDARY.taken("the last behind the last but one", 2, office -> office.bracket(0, LAST_BEGINNING - 1, 500),
                office -> office.bracket(0, LAST_BEGINNING, 500));
    }

    private static void refusedBeginningIsNotTheOneBefore() {
        FormOffice office = new FormOffice();
        CHECK.fails("a rate too large", IllegalArgumentException.class, () -> office.bracket(0, 500, 1001));
        CHECK.same("a lower beginning", 1, office.bracket(0, 400, 1000));
        CHECK.fails("a rate too small", IllegalArgumentException.class, () -> office.bracket(0, 500, -1));
        CHECK.same("the next", 2, office.bracket(0, 401, 0));
        office.reset(0, 0);
        CHECK.same("none is before it behind reset", 1, office.bracket(0, 0, 1000));
    }

    /** "or rate is not 0 .. 1000". */
    private static void ratesAreZeroToAThousand() {
        BOUNDARY.range("rate", 0, 1000, IllegalArgumentException.class, Forms::makeBusy,
                (office, rate) -> office.bracket(0, 5000, rate));
        makes(0, 12345, 2, 0, 0);
        makes(12, 12345, 2, 0, 1);
        makes(12333, 12345, 2, 0, 999);
        makes(12345, 12345, 2, 0, 1000);
    }

    /** "at most four BRACKETS"; "IllegalStateException: it has four." */
    private static void tableHasAtMostFourBrackets() {
        for (int i = 0; i < 3; i++) {
            int table = i;
            Boundary.Calls three = office -> {
                office.bracket(table, 10, 100);
                office.bracket(table, 20, 200);
                office.bracket(table, 30, 300);
            };
            Boundary.Calls four = office -> {
                three.on(office);
                office.bracket(table, 40, 400);
            };
            BOUNDARY.taken("fourth", 4, three, office -> office.bracket(table, 40, 400));
            BOUNDARY.refused("fifth", IllegalStateException.class, four, office -> office.bracket(table, 50, 500));
            BOUNDARY.refused("fifth, the last beginning", IllegalStateException.class, four,
                    office -> office.bracket(table, LAST_BEGINNING, 1000));
            BOUNDARY.taken("first of another table", 1, four, office -> office.bracket((table + 1) % 3, 0, 1));
            BOUNDARY.taken("first behind reset", 1, office -> {
                four.on(office);
                office.reset(table, 0);
            }, office -> office.bracket(table, 0, 1));
        }
        CHECK.same("what four make", 1L + 2 + 3 + 4,
                Forms.worked(Forms.withTable(0, 0, 10, 100, 20, 200, 30, 300, 40, 400), "t0(A)", 50));
    }

    /** "IllegalArgumentException: rounding is not 0 .. 2." */
    private static void roundingsAreZeroToTwo() {
        for (int i = 0; i < 3; i++) {
            int table = i;
            BOUNDARY.range("rounding of table " + table, 0, 2, IllegalArgumentException.class, Forms::makeBusy,
                    (office, rounding) -> office.reset(table, rounding));
        }
    }

    /** "A table is empty then, and rounds so: how many brackets it had." */
    private static void resetTellsHowManyThereWere() {
        FormOffice office = new FormOffice();
        for (int brackets = 0; brackets <= 4; brackets++) {
            for (int i = 0; i < brackets; i++) {
                office.bracket(1, i, 1000);
            }
            CHECK.same(brackets + " brackets", brackets, office.reset(1, 2));
            CHECK.same("none then", 0, office.reset(1, 2));
        }
    }

    private static void emptyTableMakesNothing() {
        for (int v : new int[] {-1000000000, -1, 0, 1, 1000000000}) {
            for (int rounding = 0; rounding < 3; rounding++) {
                makes(0, v, rounding);
            }
        }
    }

    /** "how much of v lies from the bracket's beginning up to the next one's". */
    private static void bracketsBeginAndEnd() {
        int[] values = {-1000000000, -1, 0, 1, 9, 10, 11, 12, 19, 20, 21, 29, 30, 31, 1000000000};
        long[] due = {0, 0, 0, 0, 0, 0, 1, 2, 9, 10, 10, 10, 10, 11, 999999980};
        for (int i = 0; i < values.length; i++) {
            makes(due[i], values[i], 0, 10, 1000, 20, 0, 30, 1000);
        }
        makes(0, 0, 0, 0, 1000);
        makes(1, 1, 0, 0, 1000);
        makes(0, -1, 0, 0, 1000);
    }

    /** "or without end": up to the largest value, and nothing of the least. */
    private static void lastBracketHasNoEnd() {
        for (int rounding = 0; rounding < 3; rounding++) {
            CHECK.same("all of the largest", 1000000000000L, ofLarge(1000000000, rounding, 0, 1000));
            CHECK.same("from the last beginning", 999000000000L, ofLarge(1000000000, rounding, LAST_BEGINNING, 1000));
            CHECK.same("nothing of the least", 0L, ofLarge(-1000000000, rounding, 0, 1000));
            CHECK.same("four brackets", 1L + 999999999996L,
                    ofLarge(1000000000, rounding, 1, 1000, 2, 0, 3, 0, 4, 1000));
        }
    }

    private static long ofLarge(int a, int rounding, int... beginningsAndRates) {
        FormOffice office = Forms.withTable(1, rounding, beginningsAndRates);
        Forms.makeLarge(office, a);
        Forms.define(office, 11, "t1(D)");
        return office.assess(0, 0);
    }

    /** "0 down (to the lower one)". */
    private static void roundsDown() {
        makes(0, 1, 0, 0, 1);
        makes(0, 1, 0, 0, 499);
        makes(0, 1, 0, 0, 500);
        makes(0, 1, 0, 0, 999);
        makes(1, 1, 0, 0, 1000);
        makes(1, 3, 0, 0, 500);
        makes(2, 3, 0, 0, 999);
        makes(3, 3, 0, 0, 1000);
    }

    /** "1 to the nearest, halves up". */
    private static void roundsHalvesUp() {
        makes(0, 1, 1, 0, 499);
        makes(1, 1, 1, 0, 500);
        makes(1, 1, 1, 0, 501);
        makes(1, 3, 1, 0, 499);
        makes(2, 3, 1, 0, 500);
        makes(2, 3, 1, 0, 501);
        makes(2, 5, 1, 0, 499);
        makes(3, 5, 1, 0, 500);
        makes(3, 5, 1, 0, 501);
        makes(0, 0, 1, 0, 500);
        makes(0, -1, 1, 0, 500);
    }

    /** "2 to the nearest, halves to the even one". */
    private static void roundsHalvesToTheEvenOne() {
        makes(0, 1, 2, 0, 499);
        makes(0, 1, 2, 0, 500);
        makes(1, 1, 2, 0, 501);
        makes(1, 3, 2, 0, 499);
        makes(2, 3, 2, 0, 500);
        makes(2, 3, 2, 0, 501);
        makes(2, 5, 2, 0, 499);
        makes(2, 5, 2, 0, 500);
        makes(3, 5, 2, 0, 501);
        makes(3, 7, 2, 0, 499);
        makes(4, 7, 2, 0, 500);
        makes(0, -1, 2, 0, 500);
    }

    /** "the sum, over the brackets, .. divided by 1000, rounded once". */
    private static void roundsOnce() {
        makes(0, 3, 0, 0, 333, 1, 333, 2, 333);
        makes(1, 3, 0, 0, 333, 1, 333, 2, 334);
        makes(0, 3, 1, 0, 166, 1, 166, 2, 167);
        makes(1, 3, 1, 0, 166, 1, 166, 2, 168);
        makes(2, 3, 1, 0, 500, 1, 500, 2, 500);
        makes(2, 3, 2, 0, 500, 1, 500, 2, 500);
        makes(0, 2, 2, 0, 250, 1, 250);
        makes(1, 2, 2, 0, 250, 1, 251);
    }
}
