import java.util.NoSuchElementException;

/** Boundaries of the form's lines: promises 5 (input), 6 (total) and 9 (order), and the terms on order and ring. */
public final class OrderBoundaryTest {
    private static final Check CHECK = new Check();
    private static final Boundary BOUNDARY = new Boundary(CHECK);

    public static void main(String[] args) {
        placesAreZeroToEleven();
        orderEndsBeforeTheRing();
        emptyOrder();
        lowestLineComesFirst();
        ringOfOneLine();
        ringOfTwoAndOfAllLines();
        linesThatNeedARing();
        primesMakeNoRing();
        linesLeftAsideMakeARing();
        ringEndsAndComesAgain();
        inputIsForLinesZeroToEleven();
        inputTellsWhetherThereWasAFormula();
        totalIsForLinesZeroToEleven();
        totalTellsTheOneThatWas();
        CHECK.done();
    }

    private static String name(int line) {
        return String.valueOf((char) ('A' + line));
    }

    /** "IllegalArgumentException: place is not 0 .. 11." */
    private static void placesAreZeroToEleven() {
        BOUNDARY.range("place", 0, 11, IllegalArgumentException.class, Forms::makeBusy,
                (office, place) -> office.order(place));
        BOUNDARY.taken("first place", 0, Forms::makeBusy, office -> office.order(0));
        BOUNDARY.taken("last place", 11, Forms::makeBusy, office -> office.order(11));
    }

    /** "IllegalStateException: the order does not go so far." Lines behind the last of it need themselves here. */
    private static void orderEndsBeforeTheRing() {
        for (int i = 1; i < 12; i++) {
            int lines = i;
            Boundary.Calls ring = office -> {
                for (int line = lines; line < 12; line++) {
                    Forms.define(office, line, name(line));
                }
            };
            BOUNDARY.taken("the last of " + lines, lines - 1, ring, office -> office.order(lines - 1));
            BOUNDARY.refused("behind the last of " + lines, IllegalStateException.class, ring,
                    office -> office.order(lines));
            BOUNDARY.refused("the last place, with " + lines, IllegalStateException.class, ring,
                    office -> office.order(11));
            BOUNDARY.refused("assess with " + lines, IllegalStateException.class, ring,
                    office -> office.assess(0, 0));
        }
    }

    private static void emptyOrder() {
        BOUNDARY.refused("the first place", IllegalStateException.class, office -> {
            for (int line = 0; line < 12; line++) {
                Forms.define(office, line, name(line));
            }
        }, office -> office.order(0));
    }

    /** "again and again the lowest line that is not in it, all of whose lines .. are in it". */
    private static void lowestLineComesFirst() {
        FormOffice office = new FormOffice();
        CHECK.order(office, 0, 1, 2, 3, 4, 5, 6, 7, 8, 9, 10, 11);
        Forms.define(office, 0, "L");
        CHECK.order(office, 1, 2, 3, 4, 5, 6, 7, 8, 9, 10, 11, 0);
        Forms.define(office, 1, "K");
        CHECK.order(office, 2, 3, 4, 5, 6, 7, 8, 9, 10, 1, 11, 0);
        Forms.define(office, 11, "A'+C");
        CHECK.order(office, 2, 3, 4, 5, 6, 7, 8, 9, 10, 1, 11, 0);
        Forms.define(office, 2, "B");
        CHECK.order(office, 3, 4, 5, 6, 7, 8, 9, 10, 1, 2, 11, 0);
        Forms.define(office, 10, "3");
        CHECK.order(office, 3, 4, 5, 6, 7, 8, 9, 10, 1, 2, 11, 0);
        FormOffice all = new FormOffice();
        Forms.define(all, 0, "B+C+D+E+F+G+H+I+J+K+L");
        CHECK.order(all, 1, 2, 3, 4, 5, 6, 7, 8, 9, 10, 11, 0);
    }

    /** "The form is a RING when some lines do not come into it." */
    private static void ringOfOneLine() {
        for (int i = 0; i < 12; i++) {
            int line = i;
            BOUNDARY.refused("a line that needs itself", IllegalStateException.class,
                    office -> Forms.define(office, line, "1+" + name(line) + "*0%"), office -> office.assess(0, 0));
            BOUNDARY.refused("the order of the others", IllegalStateException.class,
                    office -> Forms.define(office, line, name(line)), office -> office.order(11));
            BOUNDARY.taken("the order of the others", line == 11 ? 10 : 11,
                    office -> Forms.define(office, line, name(line)), office -> office.order(10));
        }
    }

    private static void ringOfTwoAndOfAllLines() {
        FormOffice two = new FormOffice();
        Forms.define(two, 0, "L");
        CHECK.order(two, 1, 2, 3, 4, 5, 6, 7, 8, 9, 10, 11, 0);
        Forms.define(two, 11, "A");
        CHECK.order(two, 1, 2, 3, 4, 5, 6, 7, 8, 9, 10);
        FormOffice all = new FormOffice();
        for (int line = 0; line < 11; line++) {
            Forms.define(all, line, name(line + 1));
        }
        CHECK.order(all, 11, 10, 9, 8, 7, 6, 5, 4, 3, 2, 1, 0);
        all.assess(0, 0);
        Forms.define(all, 11, "A");
        CHECK.order(all);
        CHECK.fails("a ring of all lines", IllegalStateException.class, () -> all.assess(0, 0));
    }

    private static void linesThatNeedARing() {
        FormOffice office = new FormOffice();
        Forms.define(office, 4, "E");
        Forms.define(office, 5, "E");
        Forms.define(office, 6, "F+A");
        CHECK.order(office, 0, 1, 2, 3, 7, 8, 9, 10, 11);
        CHECK.fails("a ring", IllegalStateException.class, () -> office.assess(0, 0));
    }

    /** "all of whose lines that stand in its formula without '". */
    private static void primesMakeNoRing() {
        BOUNDARY.taken("itself, the year before", 0L, office -> Forms.define(office, 11, "L'"),
                office -> office.assess(0, 0));
        BOUNDARY.refused("itself, this year too", IllegalStateException.class,
                office -> Forms.define(office, 11, "L'+L"), office -> office.assess(0, 0));
        FormOffice office = new FormOffice();
        for (int line = 0; line < 12; line++) {
            Forms.define(office, line, name((line + 1) % 12) + "'");
        }
        CHECK.order(office, 0, 1, 2, 3, 4, 5, 6, 7, 8, 9, 10, 11);
    }

    private static void linesLeftAsideMakeARing() {
        BOUNDARY.refused("left aside by <", IllegalStateException.class,
                office -> Forms.define(office, 11, "1<2?3:L"), office -> office.assess(0, 0));
        BOUNDARY.refused("left aside by >", IllegalStateException.class,
                office -> Forms.define(office, 11, "1>2?L:3"), office -> office.assess(0, 0));
        BOUNDARY.taken("another line", 3L, office -> Forms.define(office, 11, "1>2?K:3"),
                office -> office.assess(0, 0));
    }

    private static void ringEndsAndComesAgain() {
        FormOffice office = new FormOffice();
        Forms.define(office, 11, "L");
        CHECK.fails("ring", IllegalStateException.class, () -> office.assess(0, 0));
        Forms.define(office, 11, "7");
        CHECK.same("another formula", 7L, office.assess(0, 0));
        Forms.define(office, 11, "L");
        CHECK.fails("ring again", IllegalStateException.class, () -> office.assess(0, 0));
        CHECK.same("what was assessed stays", 7L, office.value(0, 0, 11));
        CHECK.same("had a formula", true, office.input(11));
        CHECK.same("an input", 0L, office.assess(0, 0));
    }

    /** "NoSuchElementException: there is no such line", for input. */
    private static void inputIsForLinesZeroToEleven() {
        BOUNDARY.range("input of line", 0, 11, NoSuchElementException.class, Forms::makeBusy,
                (office, line) -> office.input(line));
    }

    /** "A line becomes an input: whether it had a formula." */
    private static void inputTellsWhetherThereWasAFormula() {
        for (int line : new int[] {0, 11}) {
            FormOffice office = new FormOffice();
            CHECK.same("at first", false, office.input(line));
            Forms.define(office, line, "0");
            CHECK.same("of a formula", true, office.input(line));
            CHECK.same("of an input", false, office.input(line));
            Forms.type(office, "0+");
            CHECK.fails("no formula", IllegalArgumentException.class, () -> office.define(line));
            CHECK.same("behind a refused define", false, office.input(line));
        }
    }

    /** "NoSuchElementException: there is no such line", for total. */
    private static void totalIsForLinesZeroToEleven() {
        BOUNDARY.range("total line", 0, 11, NoSuchElementException.class, office -> {
            Forms.makeBusy(office);
            office.total(3);
        }, (office, line) -> office.total(line));
    }

    /** "The line is the total line from now on: the one that was."; "(line 11 at first)". */
    private static void totalTellsTheOneThatWas() {
        FormOffice office = new FormOffice();
        for (int line = 0; line < 12; line++) {
            office.file(0, 0, line, 100 + line);
        }
        CHECK.same("at first", 111L, office.assess(0, 0));
        CHECK.same("the one at first", 11, office.total(0));
        CHECK.same("the first", 100L, office.assess(0, 0));
        CHECK.fails("refused", NoSuchElementException.class, () -> office.total(12));
        CHECK.same("the first still", 100L, office.assess(0, 0));
        CHECK.same("the same again", 0, office.total(0));
        CHECK.same("and back", 0, office.total(11));
        CHECK.same("the last", 111L, office.assess(0, 0));
    }
}
