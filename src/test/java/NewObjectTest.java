import java.util.NoSuchElementException;

/** Promise 1: a new object. */
public final class NewObjectTest {
    private static final Check CHECK = new Check();

    public static void main(String[] args) {
        formIsEmpty();
        nothingIsCharged();
        tablesAreEmptyAndRoundDown();
        nothingIsFiledOrAssessed();
        objectsAreApart();
        CHECK.done();
    }

    private static void formIsEmpty() {
        FormOffice office = new FormOffice();
        CHECK.same("pad", 0, office.clear());
        for (int line = 0; line < 12; line++) {
            CHECK.same("order " + line, line, office.order(line));
            CHECK.same("input " + line, false, office.input(line));
        }
        CHECK.same("total line", 11, office.total(11));
        CHECK.same("rate of interest", 0, office.interest(0));
    }

    private static void nothingIsCharged() {
        FormOffice office = new FormOffice();
        CHECK.same("no balances", 0, office.pass(1000));
        office.file(0, 0, 11, 1000000000);
        office.assess(0, 0);
        CHECK.same("no rate", 0, office.pass(1000));
        CHECK.same("balance", 1000000000L, office.balance(0));
    }

    private static void tablesAreEmptyAndRoundDown() {
        for (int table = 0; table < 3; table++) {
            CHECK.same("brackets of table " + table, 0, new FormOffice().reset(table, 0));
            CHECK.same("empty table " + table, 0L, Forms.worked("t" + table + "(A)", 1000000));
            FormOffice office = new FormOffice();
            office.bracket(table, 0, 999);
            CHECK.same("table " + table + " rounds down", 0L, Forms.worked(office, "t" + table + "(A)", 1));
            CHECK.same("table " + table + " rounds 1.998 down", 1L, Forms.worked(office, "t" + table + "(A)", 2));
        }
    }

    private static void nothingIsFiledOrAssessed() {
        FormOffice office = new FormOffice();
        for (int taxpayer = 0; taxpayer < 3; taxpayer++) {
            int who = taxpayer;
            CHECK.same("balance", 0L, office.balance(who));
            CHECK.fails("posting", IllegalArgumentException.class, () -> office.posting(who, 0, 0));
            for (int year = 0; year < 4; year++) {
                int when = year;
                CHECK.fails("value", IllegalStateException.class, () -> office.value(who, when, 0));
                CHECK.fails("share", IllegalStateException.class, () -> office.share(who, when, 11));
                for (int line = 0; line < 12; line++) {
                    CHECK.same("filed", 0, office.file(who, year, line, 0));
                }
            }
        }
        CHECK.fails("taxpayer 3", NoSuchElementException.class, () -> office.balance(3));
    }

    private static void objectsAreApart() {
        FormOffice first = new FormOffice();
        first.file(0, 0, 11, 7);
        first.assess(0, 0);
        first.bracket(0, 0, 1);
        Forms.define(first, 0, "B");
        Forms.type(first, "A");
        FormOffice second = new FormOffice();
        CHECK.same("pad of another", 0, second.clear());
        CHECK.same("balance of another", 0L, second.balance(0));
        CHECK.same("table of another", 0, second.reset(0, 0));
        CHECK.same("formula of another", false, second.input(0));
    }
}
