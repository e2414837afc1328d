/** What formulas are worked out to (the terms behind promises 4 and 11). */
public final class FormulaTest {
    private static final Check CHECK = new Check();
    private static final long LARGEST = 1000000000000L;

    public static void main(String[] args) {
        sums();
        percents();
        lesserAndGreater();
        conditions();
        yearBefore();
        overflowOfSums();
        overflowOfPercents();
        overflowOnlyOfWhatIsWorkedOut();
        CHECK.done();
    }

    private static void worked(long due, String formula, int... numbers) {
        CHECK.same(formula, due, Forms.worked(formula, numbers));
    }

    private static void sums() {
        worked(0, "0");
        worked(42, "000042");
        worked(999999, "999999");
        worked(6, "A-B-C", 10, 3, 1);
        worked(8, "A-(B-C)", 10, 3, 1);
        worked(12, "A-B+C+4", 10, 3, 1);
        worked(-5, "0-A", 5);
        worked(11, "A+B*10%", 10, 10);
        worked(2, "(A+B)*10%", 10, 10);
    }

    private static void percents() {
        int[] values = {1, 3, 5, 7, -1, -3, -5, -7};
        long[] halves = {0, 2, 2, 4, 0, -2, -2, -4};
        for (int i = 0; i < values.length; i++) {
            worked(halves[i], "A*50%", values[i]);
        }
        worked(0, "A*49%", 1);
        worked(1, "A*51%", 1);
        worked(-1, "A*51%", -1);
        worked(0, "A*49%", -1);
        worked(1, "A*149%", 1);
        worked(-2, "A*151%", -1);
        worked(0, "A*0%", 999999999);
        worked(9990000000L, "A*999%", 1000000000);
        worked(2, "5*50%");
        worked(-7, "A-B*50%", -5, 3);
    }

    private static void lesserAndGreater() {
        worked(3, "m(A,B)", 3, 4);
        worked(3, "m(A,B)", 4, 3);
        worked(4, "x(A,B)", 3, 4);
        worked(4, "x(A,B)", 4, 3);
        worked(-4, "m(A,B)", -4, 3);
        worked(-3, "x(A,B)", -4, -3);
        worked(5, "x(m(A,B),m(C,D))", 1, 9, 5, 6);
    }

    private static void conditions() {
        worked(1, "A<B?1:2", 3, 4);
        worked(2, "A<B?1:2", 4, 4);
        worked(2, "A<B?1:2", 5, 4);
        worked(2, "A>B?1:2", 3, 4);
        worked(2, "A>B?1:2", 4, 4);
        worked(1, "A>B?1:2", 5, 4);
        worked(1, "A+1>B?1:2", 4, 4);
        worked(1, "A<B+1?1:2", 4, 4);
        String two = "A<B?A<C?1:2:A<C?3:4";
        worked(1, two, 1, 2, 2);
        worked(2, two, 1, 2, 0);
        worked(3, two, 1, 0, 2);
        worked(4, two, 1, 0, 0);
        worked(13, "(A<B?1:2)+12", 1, 2);
        worked(14, "A<B?1:2+12", 2, 1);
    }

    private static void yearBefore() {
        FormOffice office = new FormOffice();
        Forms.define(office, 11, "A+A'+L'");
        office.file(0, 0, 0, 1);
        office.file(0, 1, 0, 10);
        office.file(0, 2, 0, 100);
        office.file(1, 0, 0, 5000);
        office.assess(1, 0);
        CHECK.same("year 0 has none before", 1L, office.assess(0, 0));
        CHECK.same("year 2, year 1 not assessed", 100L, office.assess(0, 2));
        CHECK.same("year 1", 12L, office.assess(0, 1));
        CHECK.same("year 2 stays", 100L, office.value(0, 2, 11));
        CHECK.same("year 2 anew", 122L, office.assess(0, 2));
        office.file(0, 1, 0, 77);
        CHECK.same("what is filed only does not count", 122L, office.assess(0, 2));
        CHECK.same("year 3", 222L, office.assess(0, 3));
        Forms.define(office, 4, "E'+1");
        CHECK.same("own value of the year before is no ring", 1L, assessed(office, 0, 4));
        CHECK.same("it goes on", 2L, assessed(office, 1, 4));
        CHECK.same("and on", 3L, assessed(office, 2, 4));
    }

    private static long assessed(FormOffice office, int year, int line) {
        office.assess(0, year);
        return office.value(0, year, line);
    }

    private static FormOffice withLargest(int a) {
        FormOffice office = new FormOffice();
        Forms.makeLarge(office, a);
        return office;
    }

    private static void overflowOfSums() {
        CHECK.same("largest", LARGEST, Forms.worked(withLargest(1000000000), "D"));
        CHECK.same("least", -LARGEST, Forms.worked(withLargest(-1000000000), "D"));
        CHECK.same("largest less 1", LARGEST - 1, Forms.worked(withLargest(1000000000), "D-1"));
        CHECK.same("from the left", LARGEST, Forms.worked(withLargest(1000000000), "D-1+1"));
        overflows(1000000000, "D+1");
        overflows(1000000000, "D+1-1");
        overflows(1000000000, "1+D-1");
        overflows(1000000000, "D+D-D");
        overflows(1000000000, "0-D-1");
        overflows(-1000000000, "D-1");
        overflows(-1000000000, "D-1+1");
        overflows(1000000000, "1-(0-D)");
    }

    private static void overflows(int a, String formula) {
        FormOffice office = withLargest(a);
        CHECK.fails(formula, ArithmeticException.class, () -> Forms.worked(office, formula));
    }

    private static long withE(int e, String formula) {
        FormOffice office = withLargest(1000000000);
        office.file(0, 0, 4, e);
        return Forms.worked(office, formula);
    }

    private static void overflowOfPercents() {
        CHECK.same("whole", LARGEST, Forms.worked(withLargest(1000000000), "D*100%"));
        CHECK.same("least", -LARGEST, Forms.worked(withLargest(-1000000000), "D*100%"));
        CHECK.same("large, but small again", 999000000000L, Forms.worked(withLargest(1000000000), "C*999%"));
        CHECK.same("a hundredth above the largest", LARGEST, withE(99009901, "(D*99%+E)*101%"));
        CHECK.same("a half above the largest", LARGEST, withE(666666667, "(D*66%+C*6%+E)*150%"));
        CHECK.fails("one above the largest", ArithmeticException.class, () -> withE(99009902, "(D*99%+E)*101%"));
        overflows(1000000000, "D*101%");
        overflows(-1000000000, "D*101%");
        overflows(1000000000, "D*999%");
        overflows(-1000000000, "D*999%");
        overflows(1000000000, "m(D*101%,0)");
        overflows(1000000000, "x(0,D+1)");
        overflows(1000000000, "m(0,D+1)");
        overflows(1000000000, "t0(D+1)");
        overflows(1000000000, "(D+1)*0%");
    }

    private static void overflowOnlyOfWhatIsWorkedOut() {
        CHECK.same("first", 1L, Forms.worked(withLargest(1000000000), "1<2?1:D+1"));
        CHECK.same("second", 1L, Forms.worked(withLargest(1000000000), "1>2?D+D*999%:1"));
        CHECK.same("a condition left aside", 1L, Forms.worked(withLargest(1000000000), "1>2?D+D<0?D+1:D+2:1"));
        overflows(1000000000, "1<2?D+1:1");
        overflows(1000000000, "1>2?1:D+1");
        overflows(1000000000, "D+1>2?1:1");
        overflows(1000000000, "2<D+1?1:1");
        overflows(1000000000, "1<2?1<2?D+1:2:3");
    }
}
