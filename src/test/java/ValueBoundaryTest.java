/** Boundaries of what formulas are worked out to: the terms behind promise 11, with OVERFLOW. */
public final class ValueBoundaryTest {
    private static final Check CHECK = new Check();
    private static final Boundary BOUNDARY = new Boundary(CHECK);
    private static final long LARGEST = 1000000000000L;
    private static final int MOST = 1000000000;

    public static void main(String[] args) {
        percentsAreRoundedToTheNearest();
        equalValuesAreNeitherLessNorGreater();
        lesserAndGreaterOfEqualValues();
        noAssessmentForTheYearBefore();
        latestAssessmentOfTheYearBefore();
        yearBeforeOfTheSameTaxpayer();
        sumsOverflowAboveTheLargest();
        sumsOverflowOnTheWay();
        percentsOverflowAboveTheLargest();
        percentsAreRoundedBeforeTheyOverflow();
        allThatIsWorkedOutOverflows();
        whatIsLeftAsideDoesNot();
        eachLineOverflows();
        largestValuesGoOn();
        CHECK.done();
    }

    private static void worked(long due, String formula, int... numbers) {
        CHECK.same(formula, due, Forms.worked(formula, numbers));
    }

    /** With 1000000000 in A, D is the largest value that there is; with -1000000000, it is the least. */
    private static void large(long due, int a, String formula) {
        BOUNDARY.taken(formula + " with " + a, due, office -> defineLarge(office, a, formula),
                office -> office.assess(0, 0));
    }

    private static void overflows(int a, String formula) {
        BOUNDARY.refused(formula + " with " + a, ArithmeticException.class, office -> {
            office.file(0, 0, 11, 5);
            office.assess(0, 0);
            defineLarge(office, a, formula);
        }, office -> office.assess(0, 0));
        BOUNDARY.refused(formula + " with " + a + ", not assessed before", ArithmeticException.class,
                office -> defineLarge(office, a, formula), office -> office.assess(0, 0));
    }

    private static void defineLarge(FormOffice office, int a, String formula) {
        Forms.makeLarge(office, a);
        Forms.define(office, 11, formula);
    }

    /** "v * r % is v * r / 100, rounded to the nearest, halves to the even one". */
    private static void percentsAreRoundedToTheNearest() {
        int[] percents = {49, 50, 51, 149, 150, 151, 249, 250, 251, 349, 350, 351, 99, 100, 101, 0, 1, 999};
        long[] due = {0, 0, 1, 1, 2, 2, 2, 2, 3, 3, 4, 4, 1, 1, 1, 0, 0, 10};
        for (int i = 0; i < percents.length; i++) {
            worked(due[i], "A*" + percents[i] + "%", 1);
            worked(-due[i], "A*" + percents[i] + "%", -1);
            worked(0, "A*" + percents[i] + "%", 0);
        }
        worked(500000000, "A*50%", 999999999);
        worked(500000000, "A*50%", 1000000000);
        worked(-500000000, "A*50%", -999999999);
        worked(499999998, "A*50%", 999999997);
        worked(9990000000L, "A*999%", MOST);
        worked(-9990000000L, "A*999%", -MOST);
    }

    private static void equalValuesAreNeitherLessNorGreater() {
        for (int v : new int[] {-MOST, -1, 0, 1, MOST}) {
            worked(2, "A<B?1:2", v, v);
            worked(2, "A>B?1:2", v, v);
            worked(1, "A<B+1?1:2", v, v);
            worked(2, "A<B-1?1:2", v, v);
            worked(2, "A>B+1?1:2", v, v);
            worked(1, "A>B-1?1:2", v, v);
        }
    }

    private static void lesserAndGreaterOfEqualValues() {
        for (int v : new int[] {-MOST, -1, 0, 1, MOST}) {
            worked(v, "m(A,B)", v, v);
            worked(v, "x(A,B)", v, v);
            worked(v - 1L, "m(A,B-1)", v, v);
            worked(v, "x(A,B-1)", v, v);
            worked(v, "m(A+1,B)", v, v);
            worked(v + 1L, "x(A+1,B)", v, v);
        }
    }

    /** "0 if there is no such assessment": for year 0, and where the year before was not assessed. */
    private static void noAssessmentForTheYearBefore() {
        FormOffice office = new FormOffice();
        Forms.define(office, 11, "A'");
        for (int year = 0; year < 4; year++) {
            office.file(0, year, 0, 10 + year);
        }
        CHECK.same("year 0", 0L, office.assess(0, 0));
        CHECK.same("year 2, year 1 only filed", 0L, office.assess(0, 2));
        CHECK.same("year 1", 10L, office.assess(0, 1));
        CHECK.same("year 2", 11L, office.assess(0, 2));
        CHECK.same("year 3", 12L, office.assess(0, 3));
        CHECK.same("year 0 again, behind year 3", 0L, office.assess(0, 0));
    }

    private static void latestAssessmentOfTheYearBefore() {
        FormOffice office = new FormOffice();
        office.file(0, 0, 0, 10);
        office.assess(0, 0);
        Forms.define(office, 11, "A'");
        office.file(0, 0, 0, 20);
        CHECK.same("filed since", 10L, office.assess(0, 1));
        Forms.define(office, 1, "A*999%");
        Forms.define(office, 2, "B*999%");
        Forms.define(office, 3, "C*999%");
        Forms.define(office, 4, "D+D");
        office.file(0, 0, 0, MOST);
        CHECK.fails("a refused assessment", ArithmeticException.class, () -> office.assess(0, 0));
        CHECK.same("is none", 10L, office.assess(0, 1));
        office.file(0, 0, 0, 30);
        office.assess(0, 0);
        CHECK.same("the latest", 30L, office.assess(0, 1));
        Forms.define(office, 0, "5");
        CHECK.same("as it was assessed", 30L, office.assess(0, 1));
    }

    private static void yearBeforeOfTheSameTaxpayer() {
        FormOffice office = new FormOffice();
        Forms.define(office, 11, "A'");
        for (int taxpayer = 0; taxpayer < 3; taxpayer++) {
            office.file(taxpayer, 3, 0, 500 + taxpayer);
            office.assess(taxpayer, 3);
        }
        for (int taxpayer = 0; taxpayer < 3; taxpayer++) {
            CHECK.same("year 0 of " + taxpayer, 0L, office.assess(taxpayer, 0));
            CHECK.same("year 1 of " + taxpayer, 0L, office.assess(taxpayer, 1));
        }
    }

    /** "A value above 1000000000000 or below -1000000000000, of whatever is worked out, is OVERFLOW." */
    private static void sumsOverflowAboveTheLargest() {
        large(LARGEST, MOST, "D");
        large(LARGEST, MOST, "D+0");
        large(LARGEST - 1, MOST, "D-1");
        large(LARGEST, MOST, "D-1+1");
        large(LARGEST, MOST, "1-1+D");
        large(-LARGEST, -MOST, "D");
        large(-LARGEST, -MOST, "D-0");
        large(-LARGEST + 1, -MOST, "D+1");
        large(-LARGEST, -MOST, "D+1-1");
        large(-LARGEST, MOST, "0-D");
        large(LARGEST, -MOST, "0-D");
        overflows(MOST, "D+1");
        overflows(MOST, "1+D");
        overflows(MOST, "0-D-1");
        overflows(-MOST, "D-1");
        overflows(-MOST, "1-D");
        overflows(MOST, "D+D");
        overflows(-MOST, "D+D");
    }

    /** "A formula is worked out from the left". */
    private static void sumsOverflowOnTheWay() {
        large(LARGEST, MOST, "1-1+D");
        overflows(MOST, "1+D-1");
        overflows(MOST, "D+1-1");
        overflows(-MOST, "D-1+1");
        large(LARGEST, MOST, "D-D+D");
        overflows(MOST, "D+D-D");
        large(0, MOST, "D-D");
        large(0, -MOST, "D-D");
    }

    private static void percentsOverflowAboveTheLargest() {
        large(LARGEST, MOST, "D*100%");
        large(-LARGEST, -MOST, "D*100%");
        large(990000000000L, MOST, "D*99%");
        large(999000000000L, MOST, "C*999%");
        large(0, MOST, "D*0%");
        overflows(MOST, "D*101%");
        overflows(-MOST, "D*101%");
        overflows(MOST, "D*999%");
        overflows(-MOST, "D*999%");
    }

    /** E is what lacks so that the value, times a percent, comes to the largest or just beside it. */
    private static Boundary.Calls withE(int a, int e, String formula) {
        return office -> {
            defineLarge(office, a, formula);
            office.file(0, 0, 4, e);
        };
    }

    private static void percentsAreRoundedBeforeTheyOverflow() {
        String hundredths = "(D*99%+E)*101%";
        BOUNDARY.taken("a hundredth above", LARGEST, withE(MOST, 99009901, hundredths), office -> office.assess(0, 0));
        BOUNDARY.taken("a hundredth below", -LARGEST, withE(-MOST, -99009901, hundredths),
                office -> office.assess(0, 0));
        BOUNDARY.refused("one above", ArithmeticException.class, withE(MOST, 99009902, hundredths),
                office -> office.assess(0, 0));
        BOUNDARY.refused("one below", ArithmeticException.class, withE(-MOST, -99009902, hundredths),
                office -> office.assess(0, 0));
        String halves = "(D*66%+C*6%+E)*150%";
        BOUNDARY.taken("a half above", LARGEST, withE(MOST, 666666667, halves), office -> office.assess(0, 0));
        BOUNDARY.taken("a half below", -LARGEST, withE(-MOST, -666666667, halves), office -> office.assess(0, 0));
        BOUNDARY.refused("two above", ArithmeticException.class, withE(MOST, 666666668, halves),
                office -> office.assess(0, 0));
        BOUNDARY.refused("two below", ArithmeticException.class, withE(-MOST, -666666668, halves),
                office -> office.assess(0, 0));
    }

    /** "both are worked out"; and all that stands in ( ), before < or > and behind it is, too. */
    private static void allThatIsWorkedOutOverflows() {
        for (String formula : new String[] {
            "(D+1)*0%", "m(D+1,0)", "m(0,D+1)", "x(D+1,D)", "x(0-D-1,0)", "x(0,0-D-1)", "t0(D+1)", "t0(0-D-1)",
            "D+1<0?1:2", "0<D+1?1:2", "D+1>0?1:2", "0>D+1?1:2", "1<2?D+1:0", "1>2?0:D+1", "1<2?1<2?D+1:0:0",
            "1>2?0:1>2?0:D+1", "((((D+1))))-1", "0*0%+D*101%-D",
        }) {
            overflows(MOST, formula);
        }
        large(0, MOST, "(D)*0%");
        large(LARGEST, MOST, "m(D,D)");
        large(0, MOST, "m(D,0)");
        large(0, MOST, "x(0-D,0)");
        large(0, MOST, "t0(D)");
        large(2, MOST, "D<0?1:2");
        large(1, MOST, "0<D?1:2");
    }

    /** "only the first or the second formula behind ? is worked out". */
    private static void whatIsLeftAsideDoesNot() {
        large(1, MOST, "1<2?1:D+1");
        large(1, MOST, "1>2?D+1:1");
        large(1, MOST, "1<2?1:D*999%");
        large(1, MOST, "1>2?m(D+1,D*101%):1");
        large(1, MOST, "1>2?t0(D+1):1");
        large(1, MOST, "1>2?D+D<0?D+1:D+2:1");
        large(1, MOST, "1<2?1:0>D+D?D+1:D+2");
        large(1, MOST, "1>2?1<2?D+1:0:1");
        large(1, MOST, "1>2?1>2?0:D+1:1");
        large(1, MOST, "1<2?1:1<2?D+1:0");
        large(1, MOST, "1<2?1:1>2?0:D+1");
        large(7, MOST, "(1<2?3:D+1)+4");
        large(3, MOST, "m(1>2?D+D:3,4)");
        overflows(MOST, "(1<2?D:0)+1");
        overflows(MOST, "1<2?D<D+1?1:2:3");
    }

    /** "TO ASSESS a return is to work out all lines": one that the total does not need overflows, too. */
    private static void eachLineOverflows() {
        for (int i = 4; i < 12; i++) {
            int line = i;
            BOUNDARY.refused("line " + line, ArithmeticException.class, office -> {
                Forms.makeLarge(office, MOST);
                Forms.define(office, line, "D+1");
                office.total(line == 11 ? 10 : 11);
            }, office -> office.assess(0, 0));
        }
        FormOffice office = new FormOffice();
        defineLarge(office, MOST, "D+1");
        CHECK.same("a return without it", 1L, office.assess(0, 1));
        CHECK.same("another taxpayer's", 1L, office.assess(1, 0));
    }

    /** The largest value is as good as any: in a name with ', in a table, as what is due. */
    private static void largestValuesGoOn() {
        FormOffice office = new FormOffice();
        defineLarge(office, MOST, "D'+D");
        CHECK.same("year 0", LARGEST, office.assess(0, 0));
        CHECK.same("year 1", LARGEST, office.assess(0, 1));
        office.file(0, 1, 0, MOST);
        CHECK.fails("year 1, the largest twice", ArithmeticException.class, () -> office.assess(0, 1));
        office.file(0, 1, 0, -MOST);
        CHECK.same("year 1, both", 0L, office.assess(0, 1));
        CHECK.same("year 2 of year 1", -LARGEST, office.assess(0, 2));
        CHECK.same("posted", -LARGEST, office.posting(0, 2, 2));
    }
}
