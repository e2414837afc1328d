import java.util.NoSuchElementException;

/** Boundaries of what is a formula: promise 4 (define), and the terms on formulas. */
public final class FormulaBoundaryTest {
    private static final Check CHECK = new Check();
    private static final Boundary BOUNDARY = new Boundary(CHECK);

    public static void main(String[] args) {
        textIsNotEmpty();
        numbersHaveOneToSixDigits();
        percentsHaveOneToThreeDigits();
        percentsStandOnceBehindAUnit();
        primesStandOnceBehindAName();
        tablesAreZeroToTwo();
        oneOfTwoHasTwoFormulas();
        sumsHavePartsOnBothSides();
        conditionsAreWhole();
        conditionsGoAsFarAsThePad();
        unitsAreAtMostFourDeep();
        depthIsCountedFromEachUnit();
        bracketsAreClosed();
        nothingStandsBehindAFormula();
        differentLinesAreCounted();
        linesAreZeroToEleven();
        padIsEmptyBehindDefineOnly();
        CHECK.done();
    }

    /** The text is a formula, with so many different lines without '. */
    private static void formula(String text, int lines) {
        BOUNDARY.taken("define of " + text, lines, office -> Forms.type(office, text), office -> office.define(11));
    }

    private static void noFormula(String text) {
        BOUNDARY.refused("define of " + text, IllegalArgumentException.class, office -> {
            Forms.makeBusy(office);
            office.clear();
            Forms.type(office, text);
        }, office -> office.define(11));
    }

    private static void noFormulas(String... texts) {
        for (String text : texts) {
            noFormula(text);
        }
    }

    /** "IllegalArgumentException: the text is no formula." Each formula has a unit at least. */
    private static void textIsNotEmpty() {
        noFormula("");
        formula("0", 0);
        formula("A", 1);
        noFormulas("()", "m(,)", "m(A,)", "m(,A)", "x(,)", "x(A,)", "x(,A)", "t0()");
    }

    /** "a number of one to six digits". */
    private static void numbersHaveOneToSixDigits() {
        for (String number : new String[] {"0", "9", "00000", "000000", "000001", "99999", "999999"}) {
            CHECK.same(number, Long.parseLong(number), Forms.worked(number));
            formula("(" + number + ")", 0);
            formula("1<" + number + "?A:L", 2);
        }
        noFormulas("0000000", "0000001", "1234567", "9999999", "(1234567)", "A+1234567", "1234567+A", "m(1234567,1)",
                "1<1234567?1:2", "1<2?1234567:2", "1<2?1:1234567", "1234567*1%");
    }

    /** "*, a number of one to three digits, %". */
    private static void percentsHaveOneToThreeDigits() {
        String[] percents = {"0", "9", "00", "99", "000", "001", "999"};
        for (String percent : percents) {
            CHECK.same("100*" + percent + "%", Long.parseLong(percent), Forms.worked("100*" + percent + "%"));
        }
        noFormulas("A*%", "A*0000%", "A*0001%", "A*1000%", "A*9999%", "A*123456%", "A*A%", "A*(1)%", "A*'%");
    }

    /** "a unit; or a unit, *, a number .. , %". */
    private static void percentsStandOnceBehindAUnit() {
        formula("A*1%", 1);
        formula("A'*1%", 0);
        formula("1*1%", 0);
        formula("m(A,B)*1%", 2);
        formula("x(A,B)*1%", 2);
        formula("t0(A)*1%", 1);
        formula("(A*1%)*1%", 1);
        noFormulas("A*1%*1%", "A*1%%", "A*1", "A*", "A%", "1%", "*1%", "A**1%", "A*1%1", "A*1%A", "A*1%'", "A*1+B");
    }

    /** "a line's name and '". */
    private static void primesStandOnceBehindAName() {
        formula("A'", 0);
        formula("L'", 0);
        formula("L", 1);
        noFormulas("'", "A''", "'A", "1'", "(A)'", "m(A,B)'", "t0(A)'", "A'A", "A'1");
    }

    /** "t, a digit 0 .. 2, ( formula )". */
    private static void tablesAreZeroToTwo() {
        formula("t0(A)", 1);
        formula("t1(A)", 1);
        formula("t2(A)", 1);
        noFormulas("t3(A)", "t9(A)", "t(A)", "t00(A)", "t01(A)", "tA(A)", "tt0(A)", "t0A", "t0", "t", "t0(A,B)");
    }

    /** "m ( formula , formula ); x ( formula , formula )". */
    private static void oneOfTwoHasTwoFormulas() {
        for (String name : new String[] {"m", "x"}) {
            formula(name + "(A,B)", 2);
            formula(name + "(A<B?1:2,C>D?3:4)", 4);
            noFormulas(name, name + "(A)", name + "(A,B,C)", name + "A,B", name + "(A:B)", name + "(A,B",
                    name + "1(A,B)", name + "(A,B))", name + "(A+,B)", name + "(A<B,C)");
        }
        noFormulas("(A,B)", "A,B", "mx(A,B)");
    }

    /** "a part, or parts with + or - between". */
    private static void sumsHavePartsOnBothSides() {
        formula("A+B", 2);
        formula("A-B", 2);
        formula("A+B-C", 3);
        noFormulas("+", "-", "+A", "-A", "A+", "A-", "A++B", "A--B", "A+-B", "A-+B", "A+B-", "0-(-A)", "(+A)", "AB");
    }

    /** "a sum, < or >, a sum, ?, a formula, :, a formula". */
    private static void conditionsAreWhole() {
        for (String sign : new String[] {"<", ">"}) {
            formula("A" + sign + "B?C:D", 4);
            formula("A+1" + sign + "B-1?C+1:D-1", 4);
            noFormulas("A" + sign, sign + "A", "A" + sign + "B", "A" + sign + "B?", "A" + sign + "B?C",
                    "A" + sign + "B?C:", "A" + sign + "B?:D", "A" + sign + "?C:D", sign + "B?C:D",
                    "A" + sign + "B:C?D", "A" + sign + "B?C:D:A", "A" + sign + sign + "B?C:D",
                    "A" + sign + "B" + sign + "C?1:2", "A" + sign + "B?C?1:2:3", "(A" + sign + "B)?1:2");
        }
        noFormulas("A?B:C", "A:B", "?", ":", "<", ">", "A<>B?1:2", "A<B?C,D", "A<B?C:D?1:2");
    }

    /** Conditions have no depth of their own: they go on as long as there are characters. */
    private static void conditionsGoAsFarAsThePad() {
        formula("A<B?A<B?A<B?A<B?A<B?A<B?1:2:3:4:5:6:C'+8", 2);
        formula("A<B?1:A<B?2:A<B?3:A<B?4:A<B?5:A<B?6:C'+8", 2);
        formula("((((A<B?A<B?A<B?A<B?1:2:3:4:5))))", 2);
        noFormula("A<B?A<B?A<B?A<B?A<B?A<B?1:2:3:4:5:6:7:89");
        noFormula("A<B?A<B?A<B?A<B?A<B?A<B?A<B?1:2:3:4:5:6");
        noFormula("A<B?A<B?A<B?A<B?A<B?A<B?A<B?A<B?A<B?A<B?");
    }

    private static String inside(String kind, String unit) {
        return kind.equals("(") ? "(" + unit + ")" : kind.equals("t") ? "t2(" + unit + ")" : kind + "(" + unit + ",1)";
    }

    /** "m, x, t and ( can't stand where the unit that they begin is 4 deep". */
    private static void unitsAreAtMostFourDeep() {
        String[] kinds = {"(", "m", "x", "t"};
        for (String outer : kinds) {
            for (String inner : kinds) {
                formula(inside(outer, inside(outer, inside(outer, inside(inner, "A")))), 1);
                formula(inside(outer, inside(outer, inside(outer, inside(inner, "A'")))), 0);
                formula(inside(outer, inside(outer, inside(outer, inside(inner, "999999*999%")))), 0);
                noFormula(inside(outer, inside(outer, inside(outer, inside(outer, inside(inner, "A"))))));
            }
        }
        formula("m(1,m(1,m(1,m(1,A))))", 1);
        noFormula("m(1,m(1,m(1,m(1,(A)))))");
        formula("x(1,x(1,x(1,x(1,A))))", 1);
        noFormula("x(1,x(1,x(1,x(1,(A)))))");
    }

    /** "A unit in ( ) is one DEEPER than the unit that the ( belongs to, the others are 0 deep". */
    private static void depthIsCountedFromEachUnit() {
        formula("((((A))))+((((B))))", 2);
        formula("((((A))))*1%-((((B))))*2%", 2);
        noFormula("((((A))))+(((((B)))))");
        noFormula("(((((A)))))+((((B))))");
        formula("((((A))))<((((B))))?((((C)))):1", 3);
        formula("1<2?((((A)))):((((B))))", 2);
        noFormula("(((((A)))))<1?2:3");
        noFormula("1<(((((A)))))?2:3");
        noFormula("1<2?(((((A))))):3");
        noFormula("1<2?3:(((((A)))))");
        formula("(((1<2?(A):(B))))", 2);
        noFormula("(((1<2?((A)):(B))))");
        noFormula("(((1<2?(A):((B)))))");
        noFormula("((((A+(B)))))");
        noFormula("((((1<(B)?2:3))))");
        formula("m((((A))),(((B))))", 2);
        noFormula("m((((A))),((((B)))))");
        noFormula("m(((((A)))),(((B))))");
    }

    private static void bracketsAreClosed() {
        formula("(A)", 1);
        noFormulas("(", ")", "(A", "A)", "((A)", "(A))", ")A(", "A(", "A()", "m(", "m(A", "m(A,", "t0(", "t0(A");
    }

    private static void nothingStandsBehindAFormula() {
        noFormulas("A1", "1A", "A(B)", "(A)B", "(A)(B)", "A,", "A:", "A?", "A'B", "t0(A)1", "m(A,B)C", "1(A)",
                "Am(B,C)");
    }

    /** "how many different lines stand in it without '". */
    private static void differentLinesAreCounted() {
        formula("0", 0);
        formula("A'+B'+C'+D'+E'+F'+G'+H'+I'+J'+K'+L'", 0);
        formula("A+A+A+A+A+A+A+A+A+A+A+A+A+A+A+A+A+A+A", 1);
        formula("L+L'", 1);
        formula("L'+L", 1);
        formula("A+B+C+D+E+F+G+H+I+J+K", 11);
        formula("A+B+C+D+E+F+G+H+I+J+K+L", 12);
        formula("A+B+C+D+E+F+G+H+I+J+K+L+A+B+C+D+E+F+G+H", 12);
        formula("1<2?A:B", 2);
        formula("m(A,B)+x(C,D)+t0(E)+(F)+G*1%", 7);
    }

    /** "LINES 0 .. 11", for define. */
    private static void linesAreZeroToEleven() {
        BOUNDARY.range("define of line", 0, 11, NoSuchElementException.class, office -> {
            Forms.makeBusy(office);
            Forms.type(office, "K");
        }, (office, line) -> office.define(line));
        for (int line : new int[] {0, 11}) {
            FormOffice office = new FormOffice();
            Forms.define(office, line, "77");
            office.total(line);
            CHECK.same("total line " + line, 77L, office.assess(0, 0));
        }
    }

    /** "and the pad is empty then"; "Such a call changes nothing." */
    private static void padIsEmptyBehindDefineOnly() {
        FormOffice office = new FormOffice();
        Forms.type(office, "7+");
        CHECK.fails("no formula yet", IllegalArgumentException.class, () -> office.define(0));
        CHECK.same("still an input", false, office.input(0));
        Forms.type(office, "8");
        CHECK.fails("no such line", NoSuchElementException.class, () -> office.define(12));
        CHECK.same("a formula now", 0, office.define(0));
        CHECK.fails("an empty pad now", IllegalArgumentException.class, () -> office.define(0));
        CHECK.same("no character", 0, office.clear());
        office.assess(0, 0);
        CHECK.same("all of the text counts", 15L, office.value(0, 0, 0));
    }
}
