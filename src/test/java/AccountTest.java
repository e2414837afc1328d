import java.math.BigInteger;
import java.util.NoSuchElementException;

/** Promises 14 (pay), 15 (interest), 16 (pass), 17 (balance) and 18 (posting). */
public final class AccountTest {
    private static final Check CHECK = new Check();

    public static void main(String[] args) {
        payments();
        wrongPayments();
        interestRates();
        passPostsInterest();
        passRoundsDown();
        passPostsNothing();
        wrongDays();
        passWithAFullAccount();
        passOfLargeBalances();
        wrongPostings();
        CHECK.done();
    }

    private static FormOffice withBalances(int... balances) {
        FormOffice office = new FormOffice();
        for (int taxpayer = 0; taxpayer < balances.length; taxpayer++) {
            office.file(taxpayer, 0, 11, balances[taxpayer]);
            office.assess(taxpayer, 0);
        }
        return office;
    }

    private static void posting(FormOffice office, int taxpayer, int i, long kind, long year, long amount) {
        CHECK.same("kind of posting " + i, kind, office.posting(taxpayer, i, 0));
        CHECK.same("year of posting " + i, year, office.posting(taxpayer, i, 1));
        CHECK.same("amount of posting " + i, amount, office.posting(taxpayer, i, 2));
    }

    private static void payments() {
        FormOffice office = withBalances(100, 200);
        CHECK.same("paid", 70L, office.pay(0, 30));
        CHECK.same("paid more", -999999930L, office.pay(0, 1000000000));
        CHECK.same("balance", -999999930L, office.balance(0));
        CHECK.same("of another", 200L, office.balance(1));
        CHECK.same("of one without postings", -1L, office.pay(2, 1));
        posting(office, 0, 0, 0, 0, 100);
        posting(office, 0, 1, 1, -1, -30);
        posting(office, 0, 2, 1, -1, -1000000000);
        posting(office, 2, 0, 1, -1, -1);
    }

    private static void wrongPayments() {
        FormOffice office = Forms.withPostings(23);
        for (int taxpayer : new int[] {-1, 3, Integer.MIN_VALUE, Integer.MAX_VALUE}) {
            CHECK.fails("pay of " + taxpayer, NoSuchElementException.class, () -> office.pay(taxpayer, 0));
            CHECK.fails("balance of " + taxpayer, NoSuchElementException.class, () -> office.balance(taxpayer));
        }
        wrongAmounts(office);
        CHECK.same("the last posting", -5L, office.pay(0, 5));
        CHECK.fails("full", IllegalStateException.class, () -> office.pay(0, 5));
        wrongAmounts(office);
        CHECK.same("balance", -5L, office.balance(0));
        CHECK.same("another account", -5L, office.pay(1, 5));
    }

    private static void wrongAmounts(FormOffice office) {
        for (int amount : new int[] {0, -1, 1000000001, Integer.MIN_VALUE, Integer.MAX_VALUE}) {
            CHECK.fails("amount " + amount, IllegalArgumentException.class, () -> office.pay(0, amount));
        }
    }

    private static void interestRates() {
        FormOffice office = new FormOffice();
        CHECK.same("at first", 0, office.interest(30));
        CHECK.same("then", 30, office.interest(7));
        for (int rate : new int[] {-1, 31, Integer.MIN_VALUE, Integer.MAX_VALUE}) {
            CHECK.fails("rate " + rate, IllegalArgumentException.class, () -> office.interest(rate));
        }
        CHECK.same("refused rates change nothing", 7, office.interest(0));
        CHECK.same("and back", 0, office.interest(0));
    }

    private static void passPostsInterest() {
        FormOffice office = withBalances(36500, -36500, 73000);
        office.interest(10);
        CHECK.same("postings", 2, office.pass(10));
        posting(office, 0, 1, 2, -1, 100);
        posting(office, 2, 1, 2, -1, 200);
        CHECK.same("above 0", 36600L, office.balance(0));
        CHECK.same("below 0", -36500L, office.balance(1));
        CHECK.fails("no posting below 0", IllegalArgumentException.class, () -> office.posting(1, 1, 0));
        CHECK.same("postings of the new balances", 2, office.pass(1000));
        posting(office, 0, 2, 2, -1, 36600L * 10000 / 36500);
    }

    private static void passRoundsDown() {
        FormOffice below = withBalances(36499);
        below.interest(1);
        CHECK.same("below 1", 0, below.pass(1));
        FormOffice exact = withBalances(36500);
        exact.interest(1);
        CHECK.same("exactly 1", 1, exact.pass(1));
        posting(exact, 0, 1, 2, -1, 1);
        FormOffice almost = withBalances(72999);
        almost.interest(1);
        almost.pass(1);
        posting(almost, 0, 1, 2, -1, 1);
        FormOffice rest = withBalances(36499);
        rest.interest(30);
        rest.pass(1000);
        posting(rest, 0, 1, 2, -1, 29999);
    }

    private static void passPostsNothing() {
        FormOffice office = withBalances(1000000000, 0, -1000000000);
        CHECK.same("without a rate", 0, office.pass(1000));
        office.interest(30);
        office.pay(0, 1000000000);
        CHECK.same("nothing due", 0, office.pass(1000));
        CHECK.same("balance", 0L, office.balance(0));
    }

    private static void wrongDays() {
        FormOffice office = withBalances(1000000000);
        office.interest(30);
        for (int days : new int[] {0, -1, 1001, Integer.MIN_VALUE, Integer.MAX_VALUE}) {
            CHECK.fails("days " + days, IllegalArgumentException.class, () -> office.pass(days));
        }
        CHECK.same("balance", 1000000000L, office.balance(0));
        CHECK.same("one day", 1, office.pass(1));
        CHECK.same("most days", 1, office.pass(1000));
    }

    private static void passWithAFullAccount() {
        FormOffice office = withBalances(1000000, 1000000, 1000000);
        office.interest(30);
        for (int i = 0; i < 23; i++) {
            office.assess(1, 0);
        }
        CHECK.fails("a full account", IllegalStateException.class, () -> office.pass(1));
        CHECK.fails("wrong days", IllegalArgumentException.class, () -> office.pass(0));
        CHECK.same("one before it has no posting", 1000000L, office.balance(0));
        CHECK.same("one behind it has none", 1000000L, office.balance(2));
        CHECK.fails("none", IllegalArgumentException.class, () -> office.posting(0, 1, 0));
        office.interest(0);
        CHECK.same("a full account that gets none", 0, office.pass(1));
        FormOffice paid = Forms.withPostings(23);
        paid.pay(0, 5);
        paid.file(1, 0, 11, 1000000);
        paid.assess(1, 0);
        paid.interest(30);
        CHECK.same("a full account below 0", 1, paid.pass(1000));
        FormOffice small = Forms.withPostings(23);
        small.file(0, 0, 11, 1216);
        small.assess(0, 0);
        small.interest(30);
        CHECK.same("a full account whose interest is 0", 0, small.pass(1));
        CHECK.fails("and one whose is not", IllegalStateException.class, () -> small.pass(2));
    }

    /** The dearest account: two totals of 10^12, then interest on interest until it is full. */
    private static void passOfLargeBalances() {
        FormOffice office = new FormOffice();
        Forms.define(office, 1, "A*500%+A*500%");
        Forms.define(office, 2, "B*500%+B*500%");
        Forms.define(office, 11, "C*500%+C*500%");
        for (int year = 0; year < 2; year++) {
            office.file(0, year, 0, 1000000000);
            office.assess(0, year);
        }
        office.interest(30);
        BigInteger due = BigInteger.valueOf(2000000000000L);
        for (int i = 2; i < 24; i++) {
            int days = 1000 - i % 3;
            BigInteger charged = due.multiply(BigInteger.valueOf(30L * days)).divide(BigInteger.valueOf(36500));
            due = due.add(charged);
            CHECK.same("postings", 1, office.pass(days));
            posting(office, 0, i, 2, -1, charged.longValueExact());
            CHECK.same("balance", due.longValueExact(), office.balance(0));
        }
        CHECK.fails("full", IllegalStateException.class, () -> office.pass(1));
    }

    private static void wrongPostings() {
        FormOffice office = Forms.withPostings(24);
        for (int taxpayer : new int[] {-1, 3, Integer.MIN_VALUE, Integer.MAX_VALUE}) {
            CHECK.fails("taxpayer " + taxpayer, NoSuchElementException.class, () -> office.posting(taxpayer, -1, 3));
        }
        for (int i : new int[] {-1, 24, Integer.MIN_VALUE, Integer.MAX_VALUE}) {
            CHECK.fails("posting " + i, IllegalArgumentException.class, () -> office.posting(0, i, 0));
        }
        for (int what : new int[] {-1, 3, Integer.MIN_VALUE, Integer.MAX_VALUE}) {
            CHECK.fails("what " + what, IllegalArgumentException.class, () -> office.posting(0, 0, what));
        }
        CHECK.same("the last one", 0L, office.posting(0, 23, 2));
        CHECK.fails("of an empty account", IllegalArgumentException.class, () -> office.posting(1, 0, 0));
    }
}
