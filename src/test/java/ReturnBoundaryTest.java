import java.util.NoSuchElementException;

/** Boundaries of returns: promises 10 (file), 11 (assess), 12 (value) and 13 (share), and the terms on them. */
public final class ReturnBoundaryTest {
    private static final Check CHECK = new Check();
    private static final Boundary BOUNDARY = new Boundary(CHECK);
    private static final int MOST = 1000000000;

    public static void main(String[] args) {
        returnsThatThereAre();
        linesThatThereAre();
        cornersAreApart();
        filedNumbersAreAtMostABillion();
        numbersAreZeroAtFirst();
        noNumberForAFormula();
        numberOfALineThatBecomesAnInput();
        assessInARing();
        assessWithAFullAccount();
        assessWithOverflow();
        refusedAssessmentIsNone();
        firstDifferenceIsTheTotal();
        differenceOfZeroIsPosted();
        largestDifferences();
        otherReturnsStay();
        valueOnlyOfAnAssessment();
        shareOnlyOfAnAssessment();
        shareOfATotalOfZero();
        shareOfTheTotalThatWasDue();
        CHECK.done();
    }

    private static void assessAll(FormOffice office) {
        Forms.makeBusy(office);
        for (int i = 0; i < 3 * 4; i++) {
            office.assess(i / 4, i % 4);
        }
    }

    /** "TAXPAYERS are 0 .. 2, YEARS 0 .. 3." */
    private static void returnsThatThereAre() {
        Class<? extends Exception> none = NoSuchElementException.class;
        BOUNDARY.range("file of taxpayer", 0, 2, none, Forms::makeBusy, (office, who) -> office.file(who, 0, 0, 9));
        BOUNDARY.range("file for year", 0, 3, none, Forms::makeBusy, (office, year) -> office.file(0, year, 0, 9));
        BOUNDARY.range("assess of taxpayer", 0, 2, none, Forms::makeBusy, (office, who) -> office.assess(who, 0));
        BOUNDARY.range("assess for year", 0, 3, none, Forms::makeBusy, (office, year) -> office.assess(0, year));
        Boundary.Calls all = ReturnBoundaryTest::assessAll;
        BOUNDARY.range("value of taxpayer", 0, 2, none, all, (office, who) -> office.value(who, 0, 0));
        BOUNDARY.range("value for year", 0, 3, none, all, (office, year) -> office.value(0, year, 0));
        BOUNDARY.range("share of taxpayer", 0, 2, none, all, (office, who) -> office.share(who, 0, 0));
        BOUNDARY.range("share for year", 0, 3, none, all, (office, year) -> office.share(0, year, 0));
    }

    /** "LINES 0 .. 11", for file, value and share. */
    private static void linesThatThereAre() {
        Class<? extends Exception> none = NoSuchElementException.class;
        BOUNDARY.range("file of line", 0, 11, none, office -> {
            Forms.makeBusy(office);
            office.input(11);
        }, (office, line) -> office.file(0, 0, line, 9));
        BOUNDARY.range("value of line", 0, 11, none, Forms::makeBusy, (office, line) -> office.value(0, 0, line));
        BOUNDARY.range("share of line", 0, 11, none, Forms::makeBusy, (office, line) -> office.share(0, 0, line));
    }

    /** The first and the last taxpayer, year and line, each with a number of its own. */
    private static void cornersAreApart() {
        FormOffice office = new FormOffice();
        for (int i = 0; i < 8; i++) {
            CHECK.same("at first", 0, office.file(i / 4 * 2, i / 2 % 2 * 3, i % 2 * 11, 10 + i));
        }
        for (int i = 0; i < 4; i++) {
            CHECK.same("total", 11L + 2 * i, office.assess(i / 2 * 2, i % 2 * 3));
        }
        for (int i = 0; i < 8; i++) {
            CHECK.same("value", 10L + i, office.value(i / 4 * 2, i / 2 % 2 * 3, i % 2 * 11));
            CHECK.same("filed", 10 + i, office.file(i / 4 * 2, i / 2 % 2 * 3, i % 2 * 11, 0));
        }
    }

    /** "or v is not -1000000000 .. 1000000000". */
    private static void filedNumbersAreAtMostABillion() {
        BOUNDARY.range("v", -MOST, MOST, IllegalArgumentException.class, Forms::makeBusy,
                (office, v) -> office.file(0, 0, 0, v));
        FormOffice office = new FormOffice();
        CHECK.same("none", 0, office.file(0, 0, 11, MOST));
        CHECK.same("the most", (long) MOST, office.assess(0, 0));
        CHECK.same("was the most", MOST, office.file(0, 0, 11, -MOST));
        CHECK.same("the least", (long) -MOST, office.assess(0, 0));
        CHECK.fails("too large", IllegalArgumentException.class, () -> office.file(0, 0, 11, MOST + 1));
        CHECK.fails("too small", IllegalArgumentException.class, () -> office.file(0, 0, 11, -MOST - 1));
        CHECK.same("was the least", -MOST, office.file(0, 0, 11, 0));
    }

    /** "a number for each line that is an input (0 at first ..". */
    private static void numbersAreZeroAtFirst() {
        FormOffice office = new FormOffice();
        office.assess(2, 3);
        for (int line = 0; line < 12; line++) {
            CHECK.same("value", 0L, office.value(2, 3, line));
            CHECK.same("number", 0, office.file(2, 3, line, -1));
            CHECK.same("value then", 0L, office.value(2, 3, line));
        }
        CHECK.same("assessed anew", -1L, office.assess(2, 3));
    }

    /** "IllegalArgumentException: the line has a formula". */
    private static void noNumberForAFormula() {
        for (int i = 0; i < 12; i++) {
            int line = i;
            BOUNDARY.taken("an input", 5, office -> office.file(1, 1, line, 5), office -> office.file(1, 1, line, 6));
            BOUNDARY.refused("a formula", IllegalArgumentException.class, office -> {
                office.file(1, 1, line, 5);
                Forms.define(office, line, "7");
            }, office -> office.file(1, 1, line, 6));
            BOUNDARY.taken("an input again", 5, office -> {
                office.file(1, 1, line, 5);
                Forms.define(office, line, "7");
                office.input(line);
            }, office -> office.file(1, 1, line, 6));
        }
    }

    /** "a line that becomes one has the number that it had when it was one". */
    private static void numberOfALineThatBecomesAnInput() {
        FormOffice office = new FormOffice();
        office.file(0, 0, 11, 5);
        Forms.define(office, 11, "7");
        CHECK.same("the formula", 7L, office.assess(0, 0));
        CHECK.fails("refused", IllegalArgumentException.class, () -> office.file(0, 0, 11, 6));
        Forms.define(office, 11, "8");
        office.input(11);
        CHECK.same("the number", 5L, office.assess(0, 0));
        CHECK.same("of another return", 0L, office.assess(0, 1));
        CHECK.same("as filed", 5, office.file(0, 0, 11, 6));
        CHECK.same("none was filed", 0, office.file(0, 1, 11, 6));
    }

    /** "IllegalStateException: the form is a ring". */
    private static void assessInARing() {
        Boundary.Calls ring = office -> {
            Forms.makeBusy(office);
            office.clear();
            Forms.define(office, 4, "E");
        };
        BOUNDARY.refused("assessed before", IllegalStateException.class, ring, office -> office.assess(0, 0));
        BOUNDARY.refused("not assessed before", IllegalStateException.class, ring, office -> office.assess(1, 3));
        BOUNDARY.taken("value in a ring", 1000L, ring, office -> office.value(0, 0, 0));
    }

    /** "An account is FULL with 24"; "or the account is full". */
    private static void assessWithAFullAccount() {
        for (int i = 0; i < 3; i++) {
            int taxpayer = i;
            Boundary.Calls almost = office -> {
                Forms.makeBusy(office);
                Forms.fillAccount(office, taxpayer, 23);
            };
            Boundary.Calls full = office -> {
                Forms.makeBusy(office);
                Forms.fillAccount(office, taxpayer, 24);
            };
            BOUNDARY.taken("24th posting", 0L, almost, office -> office.assess(taxpayer, 3));
            BOUNDARY.refused("25th posting", IllegalStateException.class, full, office -> office.assess(taxpayer, 3));
            BOUNDARY.refused("25th posting, of 0", IllegalStateException.class, full,
                    office -> office.assess(taxpayer, 0));
            BOUNDARY.taken("another account", 0L, full, office -> office.assess((taxpayer + 1) % 3, 3));
        }
    }

    /** "ArithmeticException: OVERFLOW." */
    private static void assessWithOverflow() {
        Boundary.Calls overflow = office -> {
            Forms.makeBusy(office);
            office.clear();
            Forms.makeLarge(office, MOST);
            Forms.define(office, 4, "D+B'");
        };
        BOUNDARY.taken("the largest", 1000000000000L, office -> {
            overflow.on(office);
            office.total(4);
        }, office -> office.assess(0, 0));
        BOUNDARY.refused("above it", ArithmeticException.class, office -> {
            overflow.on(office);
            office.file(0, 1, 0, MOST);
        }, office -> office.assess(0, 1));
    }

    /** "Such a call changes nothing.": the next assessment is to the one before the refused one. */
    private static void refusedAssessmentIsNone() {
        FormOffice office = new FormOffice();
        Forms.makeLarge(office, 0);
        Forms.define(office, 11, "D+A");
        office.file(0, 0, 0, 1);
        CHECK.same("first", 1001L, office.assess(0, 0));
        office.file(0, 0, 0, MOST);
        CHECK.fails("overflow", ArithmeticException.class, () -> office.assess(0, 0));
        CHECK.same("value", 1L, office.value(0, 0, 0));
        CHECK.same("share", 1.0, office.share(0, 0, 11));
        office.file(0, 0, 0, 2);
        CHECK.same("second", 2002L, office.assess(0, 0));
        CHECK.same("difference to the first", 1001L, office.posting(0, 1, 2));
        CHECK.fails("two postings", IllegalArgumentException.class, () -> office.posting(0, 2, 0));
    }

    /** "the difference to the total of the one before (0 if there was none) is POSTED". */
    private static void firstDifferenceIsTheTotal() {
        for (int total : new int[] {-MOST, -1, 0, 1, MOST}) {
            FormOffice office = new FormOffice();
            office.file(2, 3, 11, total);
            CHECK.same("total", (long) total, office.assess(2, 3));
            CHECK.same("kind", 0L, office.posting(2, 0, 0));
            CHECK.same("year", 3L, office.posting(2, 0, 1));
            CHECK.same("amount", (long) total, office.posting(2, 0, 2));
            CHECK.same("balance", (long) total, office.balance(2));
        }
    }

    /** "A difference of 0 is posted, too." */
    private static void differenceOfZeroIsPosted() {
        FormOffice office = new FormOffice();
        office.file(0, 0, 11, 50);
        office.assess(0, 0);
        office.assess(0, 0);
        CHECK.same("difference", 0L, office.posting(0, 1, 2));
        CHECK.same("kind", 0L, office.posting(0, 1, 0));
        office.assess(0, 3);
        CHECK.same("a first total of 0", 0L, office.posting(0, 2, 2));
        CHECK.same("its year", 3L, office.posting(0, 2, 1));
        CHECK.fails("no more", IllegalArgumentException.class, () -> office.posting(0, 3, 2));
        CHECK.same("balance", 50L, office.balance(0));
    }

    /** OVERFLOW is of what formulas are worked out to: a difference may be twice the largest value. */
    private static void largestDifferences() {
        FormOffice office = new FormOffice();
        Forms.makeLarge(office, MOST);
        office.total(3);
        CHECK.same("largest", 1000000000000L, office.assess(0, 0));
        office.file(0, 0, 0, -MOST);
        CHECK.same("least", -1000000000000L, office.assess(0, 0));
        CHECK.same("down", -2000000000000L, office.posting(0, 1, 2));
        office.file(0, 0, 0, MOST);
        CHECK.same("largest again", 1000000000000L, office.assess(0, 0));
        CHECK.same("up", 2000000000000L, office.posting(0, 2, 2));
        for (int year = 1; year < 4; year++) {
            office.file(0, year, 0, MOST);
            office.assess(0, year);
        }
        CHECK.same("four totals", 4000000000000L, office.balance(0));
    }

    /** "What is assessed of other returns does not change by that." */
    private static void otherReturnsStay() {
        FormOffice office = new FormOffice();
        Forms.define(office, 11, "A'");
        office.file(0, 0, 0, 10);
        office.assess(0, 0);
        office.assess(0, 1);
        office.file(0, 0, 0, 20);
        CHECK.same("year 0 anew", 0L, office.assess(0, 0));
        CHECK.same("year 1 stays", 10L, office.value(0, 1, 11));
        CHECK.fails("year 1 gets no posting", IllegalArgumentException.class, () -> office.posting(0, 3, 0));
        CHECK.same("year 1 anew", 20L, office.assess(0, 1));
        CHECK.same("its difference", 10L, office.posting(0, 3, 2));
    }

    private interface CallOfReturn {
        Object on(FormOffice office, int taxpayer, int year);
    }

    /** Of all returns one was assessed, with 30 in A and a total of 40: only of that one does the call answer. */
    private static void onlyOfAnAssessment(Object due, CallOfReturn call) {
        for (int i = 0; i < 3 * 4; i++) {
            int taxpayer = i / 4;
            int year = i % 4;
            Boundary.Calls before = office -> {
                office.file(taxpayer, year, 0, 30);
                office.file(taxpayer, year, 11, 40);
                office.assess(taxpayer, year);
            };
            BOUNDARY.taken("assessed", due, before, office -> call.on(office, taxpayer, year));
            BOUNDARY.refused("another year", IllegalStateException.class, before,
                    office -> call.on(office, taxpayer, (year + 1) % 4));
            BOUNDARY.refused("another taxpayer", IllegalStateException.class, before,
                    office -> call.on(office, (taxpayer + 1) % 3, year));
        }
        BOUNDARY.refused("only filed", IllegalStateException.class, office -> office.file(0, 0, 0, 1),
                office -> call.on(office, 0, 0));
        BOUNDARY.refused("only paid", IllegalStateException.class, office -> office.pay(0, 1),
                office -> call.on(office, 0, 0));
    }

    /** "The value of a line in the latest assessment of a return. IllegalStateException: it was not assessed." */
    private static void valueOnlyOfAnAssessment() {
        onlyOfAnAssessment(30L, (office, taxpayer, year) -> office.value(taxpayer, year, 0));
    }

    /** "IllegalStateException: it was not assessed.", for share. */
    private static void shareOnlyOfAnAssessment() {
        onlyOfAnAssessment(0.75, (office, taxpayer, year) -> office.share(taxpayer, year, 0));
    }

    private static double shareOf(int value, int total) {
        FormOffice office = new FormOffice();
        office.file(0, 0, 0, value);
        office.file(0, 0, 11, total);
        office.assess(0, 0);
        return office.share(0, 0, 0);
    }

    /** "0.0 when the total was 0". */
    private static void shareOfATotalOfZero() {
        CHECK.same("of 0", 0.0, shareOf(5, 0));
        CHECK.same("of 0, below 0", 0.0, shareOf(-5, 0));
        CHECK.same("0 of 0", 0.0, shareOf(0, 0));
        CHECK.same("of 1", 5.0, shareOf(5, 1));
        CHECK.same("of -1", -5.0, shareOf(5, -1));
        CHECK.same("0 of 1", 0.0, shareOf(0, 1));
        CHECK.same("0 of -1 is 0", true, shareOf(0, -1) == 0.0);
        CHECK.same("a third", 1.0 / 3.0, shareOf(1, 3));
        CHECK.same("the least share", 1.0 / 1000000000.0, shareOf(1, MOST));
        CHECK.same("the largest share", -1000000000.0, shareOf(MOST, -1));
        FormOffice office = new FormOffice();
        Forms.makeLarge(office, MOST);
        office.file(0, 0, 11, 3);
        office.assess(0, 0);
        CHECK.same("of the largest value", 1000000000000.0 / 3.0, office.share(0, 0, 3));
    }

    /** "(The total is the value that was due then, whatever line it was.)" */
    private static void shareOfTheTotalThatWasDue() {
        FormOffice office = new FormOffice();
        office.file(0, 0, 0, 30);
        office.file(0, 0, 11, 40);
        office.assess(0, 0);
        office.total(0);
        CHECK.same("another total line since", 0.75, office.share(0, 0, 0));
        office.total(1);
        CHECK.same("one of 0 since", 0.75, office.share(0, 0, 0));
        office.assess(0, 0);
        CHECK.same("a total of 0", 0.0, office.share(0, 0, 0));
        office.total(11);
        CHECK.same("still one of 0", 0.0, office.share(0, 0, 0));
    }
}
