import java.util.NoSuchElementException;

/** Promises 7 (bracket) and 8 (reset), and what a table makes of a value. */
public final class TableTest {
    private static final Check CHECK = new Check();

    public static void main(String[] args) {
        bracketsAreCounted();
        wrongBrackets();
        fullTable();
        resetEmptiesATable();
        wrongResets();
        brackets();
        roundings();
        largeValues();
        tablesOfNow();
        CHECK.done();
    }

    private static void bracketsAreCounted() {
        FormOffice office = new FormOffice();
        CHECK.same("first", 1, office.bracket(0, 0, 0));
        CHECK.same("second", 2, office.bracket(0, 1, 1000));
        CHECK.same("third", 3, office.bracket(0, 999999999, 5));
        CHECK.same("fourth", 4, office.bracket(0, 1000000000, 5));
        CHECK.same("of another table", 1, office.bracket(1, 1000000000, 5));
        CHECK.same("of the last table", 1, office.bracket(2, 7, 5));
    }

    private static void wrongBrackets() {
        FormOffice office = new FormOffice();
        for (int table : new int[] {-1, 3, Integer.MIN_VALUE, Integer.MAX_VALUE}) {
            CHECK.fails("table " + table, NoSuchElementException.class, () -> office.bracket(table, -1, -1));
        }
        refused(office, -1, 5);
        refused(office, 1000000001, 5);
        refused(office, Integer.MIN_VALUE, 5);
        refused(office, Integer.MAX_VALUE, 5);
        refused(office, 0, -1);
        refused(office, 0, 1001);
        CHECK.same("first", 1, office.bracket(0, 100, 5));
        refused(office, 100, 5);
        refused(office, 99, 5);
        refused(office, 0, 5);
        CHECK.same("second", 2, office.bracket(0, 101, 5));
    }

    private static void refused(FormOffice office, int beginning, int rate) {
        CHECK.fails("bracket " + beginning + " " + rate, IllegalArgumentException.class,
                () -> office.bracket(0, beginning, rate));
    }

    private static void fullTable() {
        FormOffice office = Forms.withTable(0, 0, 0, 100, 10, 200, 20, 300, 30, 400);
        CHECK.fails("a fifth", IllegalStateException.class, () -> office.bracket(0, 31, 0));
        refused(office, 30, 0);
        refused(office, 31, 1001);
        refused(office, 1000000001, 0);
        CHECK.same("what it makes", 1L + 2 + 3 + 4, Forms.worked(office, "t0(A)", 40));
        CHECK.same("brackets", 4, office.reset(0, 0));
    }

    private static void resetEmptiesATable() {
        FormOffice office = Forms.withTable(1, 1, 0, 500, 10, 500);
        CHECK.same("had", 2, office.reset(1, 2));
        CHECK.same("empty", 0, office.reset(1, 2));
        CHECK.same("empty makes nothing", 0L, Forms.worked(office, "t1(A)", 1000));
        CHECK.same("a beginning below the old one", 1, office.bracket(1, 5, 500));
        CHECK.same("only the new bracket", 3L, Forms.worked(office, "t1(A)", 10 + 1));
        FormOffice other = Forms.withTable(0, 0, 0, 1000);
        other.reset(1, 0);
        other.reset(2, 0);
        CHECK.same("another table stays", 8L, Forms.worked(other, "t0(A)", 8));
    }

    private static void wrongResets() {
        FormOffice office = Forms.withTable(0, 1, 0, 500);
        for (int table : new int[] {-1, 3, Integer.MIN_VALUE, Integer.MAX_VALUE}) {
            CHECK.fails("table " + table, NoSuchElementException.class, () -> office.reset(table, 3));
        }
        for (int rounding : new int[] {-1, 3, Integer.MIN_VALUE, Integer.MAX_VALUE}) {
            CHECK.fails("rounding " + rounding, IllegalArgumentException.class, () -> office.reset(0, rounding));
        }
        CHECK.same("refused resets change nothing", 1L, Forms.worked(office, "t0(A)", 1));
    }

    private static void brackets() {
        int[] values = {-1000000000, -1, 0, 9, 10, 11, 20, 100, 110, 1000, 1010};
        long[] due = {0, 0, 0, 0, 0, 0, 1, 9, 12, 279, 279};
        for (int i = 0; i < values.length; i++) {
            FormOffice office = Forms.withTable(2, 0, 10, 100, 100, 300, 1000, 0);
            CHECK.same("of " + values[i], due[i], Forms.worked(office, "t2(A)", values[i]));
        }
        CHECK.same("rounded once, not in each bracket", 1L,
                Forms.worked(Forms.withTable(0, 0, 0, 400, 1, 400, 2, 400), "t0(A)", 3));
        CHECK.same("a table in a table", 25L, Forms.worked(Forms.withTable(0, 0, 0, 500), "t0(t0(A))", 100));
    }

    private static void roundings() {
        int[] rates = {499, 500, 501, 499, 500, 501};
        int[] values = {1, 1, 1, 3, 3, 3};
        long[][] due = {{0, 0, 0, 1, 1, 1}, {0, 1, 1, 1, 2, 2}, {0, 0, 1, 1, 2, 2}};
        for (int rounding = 0; rounding < 3; rounding++) {
            for (int i = 0; i < rates.length; i++) {
                FormOffice office = Forms.withTable(0, rounding, 0, rates[i]);
                CHECK.same("rounding " + rounding + " of " + values[i] + " * " + rates[i],
                        due[rounding][i], Forms.worked(office, "t0(A)", values[i]));
            }
            CHECK.same("exact", 2L, Forms.worked(Forms.withTable(0, rounding, 0, 1000), "t0(A)", 2));
            CHECK.same("below 0", 0L, Forms.worked(Forms.withTable(0, rounding, 0, 500), "t0(A)", -1));
        }
        CHECK.same("halves to the even one, 2.5", 2L, Forms.worked(Forms.withTable(0, 2, 0, 500), "t0(A)", 5));
        CHECK.same("halves up, 2.5", 3L, Forms.worked(Forms.withTable(0, 1, 0, 500), "t0(A)", 5));
    }

    private static void largeValues() {
        FormOffice office = Forms.withTable(0, 0, 1000000000, 1000);
        Forms.makeLarge(office, 1000000000);
        CHECK.same("the largest value", 999000000000L, Forms.worked(office, "t0(D)"));
    }

    private static void tablesOfNow() {
        FormOffice office = Forms.withTable(0, 0, 0, 100);
        CHECK.same("first", 10L, Forms.worked(office, "t0(A)", 100));
        office.reset(0, 0);
        office.bracket(0, 0, 200);
        CHECK.same("what was assessed stays", 10L, office.value(0, 0, 11));
        CHECK.same("assessed anew", 20L, office.assess(0, 0));
    }
}
