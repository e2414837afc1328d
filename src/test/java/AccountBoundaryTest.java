import java.util.NoSuchElementException;

/** Boundaries of accounts: promises 14 (pay), 15 (interest), 16 (pass), 17 (balance) and 18 (posting). */
public final class AccountBoundaryTest {
    private static final Check CHECK = new Check();
    private static final Boundary BOUNDARY = new Boundary(CHECK);
    private static final int MOST = 1000000000;

    public static void main(String[] args) {
        taxpayersAreZeroToTwo();
        amountsAreOneToABillion();
        payWithAFullAccount();
        ratesAreZeroToThirty();
        refusedRateIsNotCharged();
        daysAreOneToAThousand();
        onlyBalancesAboveZeroAreCharged();
        interestOfZeroIsNotPosted();
        interestIsRoundedDown();
        passTellsHowManyPostings();
        passWithAFullAccount();
        passWithAFullAccountThatGetsNone();
        eachCallMakesTheTwentyFourthPosting();
        balanceIsTheSumOfAll();
        postingsAreCountedFromZero();
        whatIsZeroToTwo();
        CHECK.done();
    }

    private static void owe(FormOffice office, int taxpayer, int amount) {
        office.file(taxpayer, 0, 11, amount);
        office.assess(taxpayer, 0);
    }

    private static void posting(FormOffice office, int taxpayer, int i, long kind, long year, long amount) {
        CHECK.same("kind of posting " + i, kind, office.posting(taxpayer, i, 0));
        CHECK.same("year of posting " + i, year, office.posting(taxpayer, i, 1));
        CHECK.same("amount of posting " + i, amount, office.posting(taxpayer, i, 2));
    }

    /** "TAXPAYERS are 0 .. 2", for pay, balance and posting. */
    private static void taxpayersAreZeroToTwo() {
        Class<? extends Exception> none = NoSuchElementException.class;
        BOUNDARY.range("pay of taxpayer", 0, 2, none, Forms::makeBusy, (office, who) -> office.pay(who, 5));
        BOUNDARY.range("balance of taxpayer", 0, 2, none, Forms::makeBusy, (office, who) -> office.balance(who));
        BOUNDARY.range("posting of taxpayer", 0, 2, none, Forms::makeBusy, (office, who) -> office.posting(who, 0, 0));
        FormOffice office = new FormOffice();
        for (int taxpayer = 0; taxpayer < 3; taxpayer++) {
            CHECK.same("paid", -10L - taxpayer, office.pay(taxpayer, 10 + taxpayer));
        }
        for (int taxpayer = 0; taxpayer < 3; taxpayer++) {
            CHECK.same("balance", -10L - taxpayer, office.balance(taxpayer));
            CHECK.same("posting", -10L - taxpayer, office.posting(taxpayer, 0, 2));
        }
    }

    /** "IllegalArgumentException: amount is not 1 .. 1000000000." */
    private static void amountsAreOneToABillion() {
        BOUNDARY.range("amount", 1, MOST, IllegalArgumentException.class, Forms::makeBusy,
                (office, amount) -> office.pay(1, amount));
        BOUNDARY.refused("amount -1", IllegalArgumentException.class, Forms::makeBusy, office -> office.pay(1, -1));
        FormOffice office = new FormOffice();
        CHECK.same("the least", -1L, office.pay(0, 1));
        CHECK.same("the most", -1000000001L, office.pay(0, MOST));
        posting(office, 0, 0, 1, -1, -1);
        posting(office, 0, 1, 1, -1, -1000000000);
        for (int i = 0; i < 22; i++) {
            office.pay(0, MOST);
        }
        CHECK.same("as much as can be paid", -23000000001L, office.balance(0));
    }

    /** "IllegalStateException: the account is full.", for pay. */
    private static void payWithAFullAccount() {
        for (int i = 0; i < 3; i++) {
            int taxpayer = i;
            BOUNDARY.taken("24th posting", -5L, office -> Forms.fillAccount(office, taxpayer, 23),
                    office -> office.pay(taxpayer, 5));
            Boundary.Calls full = office -> {
                Forms.makeBusy(office);
                Forms.fillAccount(office, taxpayer, 24);
            };
            BOUNDARY.refused("25th posting", IllegalStateException.class, full, office -> office.pay(taxpayer, 5));
            BOUNDARY.refused("25th posting, the most", IllegalStateException.class, full,
                    office -> office.pay(taxpayer, MOST));
        }
        BOUNDARY.taken("another account", -5L, office -> Forms.fillAccount(office, 0, 24), office -> office.pay(1, 5));
    }

    /** "IllegalArgumentException: rate is not 0 .. 30." */
    private static void ratesAreZeroToThirty() {
        BOUNDARY.range("rate", 0, 30, IllegalArgumentException.class, Forms::makeBusy,
                (office, rate) -> office.interest(rate));
        FormOffice office = new FormOffice();
        CHECK.same("at first", 0, office.interest(30));
        CHECK.same("the most", 30, office.interest(0));
        CHECK.same("the least", 0, office.interest(1));
        CHECK.same("then", 1, office.interest(1));
    }

    private static void refusedRateIsNotCharged() {
        FormOffice office = new FormOffice();
        owe(office, 0, 36500);
        CHECK.fails("refused at first", IllegalArgumentException.class, () -> office.interest(31));
        CHECK.same("rate 0", 0, office.pass(1000));
        office.interest(30);
        CHECK.fails("refused then", IllegalArgumentException.class, () -> office.interest(-1));
        CHECK.same("rate 30", 1, office.pass(1));
        CHECK.same("amount", 30L, office.posting(0, 1, 2));
    }

    /** "IllegalArgumentException: days is not 1 .. 1000." */
    private static void daysAreOneToAThousand() {
        BOUNDARY.range("days", 1, 1000, IllegalArgumentException.class, Forms::makeBusy,
                (office, days) -> office.pass(days));
        BOUNDARY.refused("days -1", IllegalArgumentException.class, Forms::makeBusy, office -> office.pass(-1));
        BOUNDARY.refused("0 days where nothing is due", IllegalArgumentException.class, office -> { },
                office -> office.pass(0));
        BOUNDARY.refused("1001 days where nothing is due", IllegalArgumentException.class, office -> { },
                office -> office.pass(1001));
        FormOffice office = new FormOffice();
        owe(office, 0, 36500);
        office.interest(1);
        CHECK.same("one day", 1, office.pass(1));
        posting(office, 0, 1, 2, -1, 1);
        office.pay(0, 1);
        CHECK.same("a thousand days", 1, office.pass(1000));
        posting(office, 0, 3, 2, -1, 1000);
    }

    /** "for each taxpayer whose balance is above 0". */
    private static void onlyBalancesAboveZeroAreCharged() {
        FormOffice office = new FormOffice();
        office.interest(30);
        for (int balance : new int[] {-MOST, -36500, -1, 0}) {
            owe(office, 0, balance);
            CHECK.same("balance " + balance, 0, office.pass(1000));
            CHECK.same("balance stays", (long) balance, office.balance(0));
        }
        owe(office, 0, 2);
        CHECK.same("balance 2", 1, office.pass(1000));
        posting(office, 0, 5, 2, -1, 1);
        office.pay(0, 3);
        CHECK.same("paid off", 0, office.pass(1000));
    }

    /** "is posted as interest, if it is not 0". */
    private static void interestOfZeroIsNotPosted() {
        FormOffice office = new FormOffice();
        owe(office, 0, 1);
        office.interest(30);
        CHECK.same("30000 of 36500", 0, office.pass(1000));
        owe(office, 0, 1216);
        CHECK.same("36480 of 36500", 0, office.pass(1));
        owe(office, 0, 1217);
        CHECK.same("36510 of 36500", 1, office.pass(1));
        posting(office, 0, 3, 2, -1, 1);
        office.interest(0);
        owe(office, 0, MOST);
        CHECK.same("a rate of 0", 0, office.pass(1000));
        CHECK.fails("no posting", IllegalArgumentException.class, () -> office.posting(0, 5, 0));
    }

    private static void charged(long due, int balance, int rate, int days) {
        FormOffice office = new FormOffice();
        owe(office, 0, balance);
        office.interest(rate);
        office.pass(days);
        CHECK.same(balance + " * " + rate + " * " + days, balance + due, office.balance(0));
    }

    /** "balance * rate * days / 36500, rounded down". */
    private static void interestIsRoundedDown() {
        charged(0, 36499, 1, 1);
        charged(1, 36500, 1, 1);
        charged(1, 72999, 1, 1);
        charged(2, 73000, 1, 1);
        charged(29999, 36499, 30, 1000);
        charged(30000, 36500, 30, 1000);
        charged(30, 36501, 30, 1);
        charged(821917808, MOST, 30, 1000);
        charged(27397, MOST, 1, 1);
        charged(0, MOST, 0, 1000);
    }

    /** "how many postings there were". */
    private static void passTellsHowManyPostings() {
        for (int i = 0; i < 8; i++) {
            FormOffice office = new FormOffice();
            for (int taxpayer = 0; taxpayer < 3; taxpayer++) {
                owe(office, taxpayer, (i >> taxpayer & 1) == 1 ? 36500 : 36499);
            }
            office.interest(1);
            CHECK.same("postings", Integer.bitCount(i), office.pass(1));
            for (int taxpayer = 0; taxpayer < 3; taxpayer++) {
                CHECK.same("balance", (i >> taxpayer & 1) == 1 ? 36501L : 36499L, office.balance(taxpayer));
            }
        }
    }

    /** "IllegalStateException: an account that would get a posting is full." */
    private static void passWithAFullAccount() {
        for (int i = 0; i < 3; i++) {
            int full = i;
            BOUNDARY.taken("24th posting of " + full, 3, office -> oweWithPostings(office, full, 23),
                    office -> office.pass(1));
            BOUNDARY.refused("25th posting of " + full, IllegalStateException.class,
                    office -> oweWithPostings(office, full, 24), office -> office.pass(1));
            BOUNDARY.refused("25th posting of " + full + ", most days", IllegalStateException.class,
                    office -> oweWithPostings(office, full, 24), office -> office.pass(1000));
        }
    }

    /** All three are charged 1 a day, and one of them has so many postings. */
    private static void oweWithPostings(FormOffice office, int taxpayer, int postings) {
        for (int who = 0; who < 3; who++) {
            owe(office, who, 36500);
        }
        Forms.fillAccount(office, taxpayer, postings);
        office.interest(1);
    }

    private static void passWithAFullAccountThatGetsNone() {
        for (int balance : new int[] {-36500, 0, 36499}) {
            FormOffice office = new FormOffice();
            owe(office, 1, balance);
            Forms.fillAccount(office, 1, 24);
            owe(office, 0, 36500);
            owe(office, 2, 36500);
            office.interest(1);
            CHECK.same("the others' postings, " + balance, 2, office.pass(1));
            CHECK.same("of the full one, " + balance, (long) balance, office.balance(1));
            CHECK.same("before it", 36501L, office.balance(0));
            CHECK.same("behind it", 36501L, office.balance(2));
        }
        BOUNDARY.taken("a rate of 0", 0, office -> {
            oweWithPostings(office, 0, 24);
            office.interest(0);
        }, office -> office.pass(1000));
        BOUNDARY.taken("a full account with nothing due, alone", 0, office -> {
            Forms.fillAccount(office, 0, 24);
            office.interest(30);
        }, office -> office.pass(1000));
    }

    /** "a list of POSTINGS, at most 24": tax, payments and interest count alike. */
    private static void eachCallMakesTheTwentyFourthPosting() {
        Boundary.Calls twentyThree = office -> {
            owe(office, 0, 365000);
            office.interest(1);
            for (int i = 0; i < 11; i++) {
                office.pay(0, 1);
                office.pass(1);
            }
        };
        BOUNDARY.taken("nothing at place 23", IllegalArgumentException.class, twentyThree,
                office -> office.posting(0, 23, 0));
        BOUNDARY.taken("interest at place 22", 2L, twentyThree, office -> office.posting(0, 22, 0));
        for (int i = 0; i < 3; i++) {
            int kind = i;
            Boundary.Calls full = office -> {
                twentyThree.on(office);
                post(office, kind);
            };
            BOUNDARY.taken("kind at place 23", (long) kind, full, office -> office.posting(0, 23, 0));
            BOUNDARY.refused("tax behind " + kind, IllegalStateException.class, full, office -> office.assess(0, 1));
            BOUNDARY.refused("payment behind " + kind, IllegalStateException.class, full, office -> office.pay(0, 1));
            BOUNDARY.refused("interest behind " + kind, IllegalStateException.class, full, office -> office.pass(1));
        }
    }

    private static void post(FormOffice office, int kind) {
        if (kind == 0) {
            office.assess(0, 1);
        } else if (kind == 1) {
            office.pay(0, 1);
        } else {
            office.pass(1);
        }
    }

    /** "the BALANCE is the sum of the amounts (payments count against it, with amounts below 0)". */
    private static void balanceIsTheSumOfAll() {
        FormOffice office = new FormOffice();
        CHECK.same("without postings", 0L, office.balance(0));
        owe(office, 0, 36500);
        CHECK.same("tax", 36500L, office.balance(0));
        CHECK.same("a payment", 36499L, office.pay(0, 1));
        office.interest(30);
        office.pass(1);
        CHECK.same("interest", 36528L, office.balance(0));
        CHECK.same("all of it", 0L, office.pay(0, 36528));
        CHECK.same("more than it", -1L, office.pay(0, 1));
        owe(office, 0, 0);
        CHECK.same("tax again", -36501L, office.balance(0));
        long sum = 0;
        for (int i = 0; i < 6; i++) {
            sum += office.posting(0, i, 2);
        }
        CHECK.same("sum of the postings", -36501L, sum);
    }

    /** "posting i (from 0)"; "IllegalArgumentException: there is no such posting". */
    private static void postingsAreCountedFromZero() {
        BOUNDARY.refused("of an empty account", IllegalArgumentException.class, office -> { },
                office -> office.posting(0, 0, 0));
        for (int postings : new int[] {1, 2, 23, 24}) {
            BOUNDARY.range("posting of " + postings, 0, postings - 1, IllegalArgumentException.class,
                    office -> Forms.fillAccount(office, 1, postings), (office, i) -> office.posting(1, i, 2));
        }
        BOUNDARY.refused("of another account", IllegalArgumentException.class,
                office -> Forms.fillAccount(office, 1, 24), office -> office.posting(0, 0, 0));
    }

    /** "0 its kind, 1 its year, 2 its amount"; "there is no such .. what". */
    private static void whatIsZeroToTwo() {
        BOUNDARY.range("what", 0, 2, IllegalArgumentException.class, Forms::makeBusy,
                (office, what) -> office.posting(0, 0, what));
        FormOffice office = new FormOffice();
        owe(office, 0, 36500);
        office.assess(0, 3);
        office.pay(0, 500);
        office.interest(30);
        office.pass(1000);
        posting(office, 0, 0, 0, 0, 36500);
        posting(office, 0, 1, 0, 3, 0);
        posting(office, 0, 2, 1, -1, -500);
        posting(office, 0, 3, 2, -1, 36000L * 30000 / 36500);
    }
}
