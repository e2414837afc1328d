import java.util.NoSuchElementException;

/** Promises 10 (file), 11 (assess), 12 (value) and 13 (share). */
public final class ReturnTest {
    private static final Check CHECK = new Check();

    public static void main(String[] args) {
        fileAnswersTheNumberBefore();
        returnsAreApart();
        wrongFiles();
        assessPostsTheDifference();
        assessIsRefused();
        overflowChangesNothing();
        valuesOfTheLatestAssessment();
        wrongValuesAndShares();
        shares();
        CHECK.done();
    }

    private static void fileAnswersTheNumberBefore() {
        FormOffice office = new FormOffice();
        CHECK.same("at first", 0, office.file(0, 0, 0, 5));
        CHECK.same("then", 5, office.file(0, 0, 0, -1000000000));
        CHECK.same("least", -1000000000, office.file(0, 0, 0, 1000000000));
        CHECK.same("largest", 1000000000, office.file(0, 0, 0, 0));
    }

    private static void returnsAreApart() {
        FormOffice office = new FormOffice();
        for (int i = 0; i < 3 * 4 * 12; i++) {
            CHECK.same("filed at first", 0, office.file(i / 48, i / 12 % 4, i % 12, i + 1));
        }
        for (int i = 0; i < 3 * 4 * 12; i++) {
            CHECK.same("filed", i + 1, office.file(i / 48, i / 12 % 4, i % 12, i + 1));
        }
        for (int i = 0; i < 3 * 4; i++) {
            CHECK.same("total", i * 12L + 12, office.assess(i / 4, i % 4));
        }
        for (int i = 0; i < 3 * 4 * 12; i++) {
            CHECK.same("value", i + 1L, office.value(i / 48, i / 12 % 4, i % 12));
        }
    }

    private static void wrongFiles() {
        FormOffice office = new FormOffice();
        Forms.define(office, 1, "A");
        for (int wrong : new int[] {-1, 12, Integer.MIN_VALUE, Integer.MAX_VALUE}) {
            CHECK.fails("line " + wrong, NoSuchElementException.class, () -> office.file(0, 0, wrong, 2000000000));
        }
        for (int wrong : new int[] {-1, 4, Integer.MIN_VALUE, Integer.MAX_VALUE}) {
            CHECK.fails("year " + wrong, NoSuchElementException.class, () -> office.file(0, wrong, 1, 2000000000));
            CHECK.fails("assess year " + wrong, NoSuchElementException.class, () -> office.assess(0, wrong));
        }
        for (int wrong : new int[] {-1, 3, Integer.MIN_VALUE, Integer.MAX_VALUE}) {
            CHECK.fails("taxpayer " + wrong, NoSuchElementException.class, () -> office.file(wrong, 0, 1, 2000000000));
            CHECK.fails("assess taxpayer " + wrong, NoSuchElementException.class, () -> office.assess(wrong, 0));
        }
        for (int wrong : new int[] {-1000000001, 1000000001, Integer.MIN_VALUE, Integer.MAX_VALUE}) {
            CHECK.fails("number " + wrong, IllegalArgumentException.class, () -> office.file(0, 0, 0, wrong));
        }
        CHECK.fails("formula", IllegalArgumentException.class, () -> office.file(0, 0, 1, 5));
        CHECK.same("nothing was filed", 0, office.file(0, 0, 0, 0));
        office.input(1);
        CHECK.same("nor where a formula was", 0, office.file(0, 0, 1, 0));
    }

    private static void assessPostsTheDifference() {
        FormOffice office = new FormOffice();
        office.file(1, 2, 11, 100);
        CHECK.same("first", 100L, office.assess(1, 2));
        CHECK.same("kind", 0L, office.posting(1, 0, 0));
        CHECK.same("year", 2L, office.posting(1, 0, 1));
        CHECK.same("amount", 100L, office.posting(1, 0, 2));
        office.file(1, 2, 11, 40);
        CHECK.same("second", 40L, office.assess(1, 2));
        CHECK.same("difference", -60L, office.posting(1, 1, 2));
        CHECK.same("the same", 40L, office.assess(1, 2));
        CHECK.same("a difference of 0", 0L, office.posting(1, 2, 2));
        office.file(1, 3, 11, 7);
        CHECK.same("another year", 7L, office.assess(1, 3));
        CHECK.same("its year", 3L, office.posting(1, 3, 1));
        CHECK.same("its difference", 7L, office.posting(1, 3, 2));
        CHECK.same("balance", 47L, office.balance(1));
        CHECK.same("of another taxpayer", 0L, office.balance(0));
        CHECK.fails("no posting of another", IllegalArgumentException.class, () -> office.posting(0, 0, 0));
    }

    private static void assessIsRefused() {
        FormOffice ring = new FormOffice();
        Forms.define(ring, 4, "1<2?0:E");
        CHECK.fails("ring", IllegalStateException.class, () -> ring.assess(0, 0));
        CHECK.fails("ring, no taxpayer", NoSuchElementException.class, () -> ring.assess(3, 0));
        CHECK.fails("nothing assessed", IllegalStateException.class, () -> ring.value(0, 0, 0));
        FormOffice full = Forms.withPostings(24);
        CHECK.fails("full", IllegalStateException.class, () -> full.assess(0, 0));
        CHECK.fails("full, other year", IllegalStateException.class, () -> full.assess(0, 3));
        CHECK.fails("not assessed", IllegalStateException.class, () -> full.value(0, 3, 0));
        CHECK.same("another account", 0L, full.assess(1, 0));
        Forms.define(full, 0, "((((999999*999%)*999%)*999%)*999%)*999%");
        Forms.define(full, 1, "A*999%+A*999%");
        CHECK.fails("overflow in a full account", IllegalStateException.class, () -> full.assess(0, 0));
        CHECK.fails("overflow", ArithmeticException.class, () -> full.assess(1, 0));
    }

    private static void overflowChangesNothing() {
        FormOffice office = new FormOffice();
        Forms.define(office, 1, "A*999%");
        Forms.define(office, 2, "B*999%");
        Forms.define(office, 3, "C*999%");
        Forms.define(office, 4, "D+D");
        office.file(0, 0, 0, 100);
        office.file(0, 0, 11, 5);
        office.assess(0, 0);
        office.file(0, 0, 0, 1000000000);
        office.file(0, 0, 11, 6);
        office.file(1, 0, 0, -1000000000);
        CHECK.fails("overflow", ArithmeticException.class, () -> office.assess(0, 0));
        CHECK.fails("overflow for the first time", ArithmeticException.class, () -> office.assess(1, 0));
        CHECK.same("an input of the latest assessment", 100L, office.value(0, 0, 0));
        CHECK.same("a formula of it", 999L, office.value(0, 0, 1));
        CHECK.same("the total of it", 5L, office.value(0, 0, 11));
        CHECK.fails("nothing was posted", IllegalArgumentException.class, () -> office.posting(0, 1, 0));
        CHECK.same("balance", 5L, office.balance(0));
        CHECK.fails("not assessed", IllegalStateException.class, () -> office.value(1, 0, 0));
        CHECK.same("what was filed stays", 1000000000, office.file(0, 0, 0, 1));
        CHECK.same("without overflow", 6L, office.assess(0, 0));
        CHECK.same("difference", 1L, office.posting(0, 1, 2));
    }

    private static void valuesOfTheLatestAssessment() {
        FormOffice office = new FormOffice();
        Forms.define(office, 5, "G*10%");
        office.file(0, 1, 6, 50);
        office.assess(0, 1);
        office.file(0, 1, 6, 70);
        Forms.define(office, 5, "G*20%");
        CHECK.same("input", 50L, office.value(0, 1, 6));
        CHECK.same("formula", 5L, office.value(0, 1, 5));
        CHECK.same("total", 0L, office.value(0, 1, 11));
        office.assess(0, 1);
        CHECK.same("input anew", 70L, office.value(0, 1, 6));
        CHECK.same("formula anew", 14L, office.value(0, 1, 5));
    }

    private static void wrongValuesAndShares() {
        FormOffice office = new FormOffice();
        office.assess(0, 0);
        for (int wrong : new int[] {-1, 12, Integer.MIN_VALUE, Integer.MAX_VALUE}) {
            CHECK.fails("value of line " + wrong, NoSuchElementException.class, () -> office.value(0, 1, wrong));
            CHECK.fails("share of line " + wrong, NoSuchElementException.class, () -> office.share(0, 1, wrong));
            CHECK.fails("value, assessed", NoSuchElementException.class, () -> office.value(0, 0, wrong));
            CHECK.fails("share, assessed", NoSuchElementException.class, () -> office.share(0, 0, wrong));
        }
        for (int wrong : new int[] {-1, 4, Integer.MIN_VALUE, Integer.MAX_VALUE}) {
            CHECK.fails("value in year " + wrong, NoSuchElementException.class, () -> office.value(0, wrong, 0));
            CHECK.fails("share in year " + wrong, NoSuchElementException.class, () -> office.share(0, wrong, 0));
        }
        for (int wrong : new int[] {-1, 3, Integer.MIN_VALUE, Integer.MAX_VALUE}) {
            CHECK.fails("value of " + wrong, NoSuchElementException.class, () -> office.value(wrong, 0, 0));
            CHECK.fails("share of " + wrong, NoSuchElementException.class, () -> office.share(wrong, 0, 0));
        }
        CHECK.fails("value, not assessed", IllegalStateException.class, () -> office.value(0, 1, 0));
        CHECK.fails("share, not assessed", IllegalStateException.class, () -> office.share(0, 1, 0));
        CHECK.fails("share of another", IllegalStateException.class, () -> office.share(1, 0, 0));
    }

    private static void shares() {
        FormOffice office = new FormOffice();
        office.file(0, 0, 0, 1);
        office.file(0, 0, 1, -7);
        office.file(0, 0, 11, 3);
        office.assess(0, 0);
        CHECK.same("a third", 1.0 / 3.0, office.share(0, 0, 0));
        CHECK.same("below 0", -7.0 / 3.0, office.share(0, 0, 1));
        CHECK.same("0 of the total", 0.0, office.share(0, 0, 2));
        CHECK.same("the total", 1.0, office.share(0, 0, 11));
        office.file(0, 0, 11, 1000000000);
        office.total(0);
        CHECK.same("the total that was due then", 1.0 / 3.0, office.share(0, 0, 0));
        office.assess(0, 0);
        CHECK.same("above 1", 1.0E9, office.share(0, 0, 11));
        office.file(0, 0, 0, 0);
        office.assess(0, 0);
        CHECK.same("a total of 0", 0.0, office.share(0, 0, 1));
        CHECK.same("a total of 0, of itself", 0.0, office.share(0, 0, 0));
        office.file(0, 0, 0, -2);
        office.assess(0, 0);
        CHECK.same("a total below 0", 3.5, office.share(0, 0, 1));
    }
}
