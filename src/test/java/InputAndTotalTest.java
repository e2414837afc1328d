import java.util.NoSuchElementException;

/** Promises 5 (input) and 6 (total). */
public final class InputAndTotalTest {
    private static final Check CHECK = new Check();

    public static void main(String[] args) {
        inputTakesTheFormulaAway();
        inputKeepsTheNumber();
        inputEndsARing();
        totalAnswersTheOneBefore();
        totalCountsFromTheNextAssessmentOn();
        wrongLines();
        CHECK.done();
    }

    private static void inputTakesTheFormulaAway() {
        FormOffice office = new FormOffice();
        CHECK.same("an input already", false, office.input(3));
        Forms.define(office, 3, "7");
        CHECK.same("a formula", true, office.input(3));
        CHECK.same("an input then", false, office.input(3));
        CHECK.same("it can be filed", 0, office.file(0, 0, 3, 5));
        office.assess(0, 0);
        CHECK.same("its value", 5L, office.value(0, 0, 3));
    }

    private static void inputKeepsTheNumber() {
        FormOffice office = new FormOffice();
        office.file(2, 3, 4, 123);
        Forms.define(office, 4, "A+9");
        office.assess(2, 3);
        CHECK.same("value by the formula", 9L, office.value(2, 3, 4));
        office.input(4);
        CHECK.same("the latest assessment stays", 9L, office.value(2, 3, 4));
        office.assess(2, 3);
        CHECK.same("the number that it had", 123L, office.value(2, 3, 4));
        CHECK.same("filed anew", 123, office.file(2, 3, 4, 0));
    }

    private static void inputEndsARing() {
        FormOffice office = new FormOffice();
        Forms.define(office, 0, "B");
        Forms.define(office, 1, "A");
        CHECK.fails("ring", IllegalStateException.class, () -> office.assess(0, 0));
        office.input(1);
        CHECK.same("no ring", 0L, office.assess(0, 0));
        CHECK.same("first", 1, office.order(0));
        CHECK.same("second", 0, office.order(1));
    }

    private static void totalAnswersTheOneBefore() {
        FormOffice office = new FormOffice();
        CHECK.same("at first", 11, office.total(0));
        CHECK.same("then", 0, office.total(5));
        CHECK.same("the same again", 5, office.total(5));
        CHECK.same("and back", 5, office.total(11));
    }

    private static void totalCountsFromTheNextAssessmentOn() {
        FormOffice office = new FormOffice();
        office.file(0, 0, 11, 100);
        office.file(0, 0, 2, 30);
        CHECK.same("line 11", 100L, office.assess(0, 0));
        office.total(2);
        CHECK.same("balance until then", 100L, office.balance(0));
        CHECK.same("share until then", 0.3, office.share(0, 0, 2));
        CHECK.same("line 2", 30L, office.assess(0, 0));
        CHECK.same("difference", -70L, office.posting(0, 1, 2));
        CHECK.same("balance", 30L, office.balance(0));
        CHECK.same("share", 1.0, office.share(0, 0, 2));
    }

    private static void wrongLines() {
        FormOffice office = new FormOffice();
        for (int line : new int[] {-1, 12, Integer.MIN_VALUE, Integer.MAX_VALUE}) {
            CHECK.fails("input " + line, NoSuchElementException.class, () -> office.input(line));
            CHECK.fails("total " + line, NoSuchElementException.class, () -> office.total(line));
        }
        CHECK.same("total line", 11, office.total(0));
    }
}
