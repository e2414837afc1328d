import java.util.NoSuchElementException;

/** Promise 4: define, and what is a formula. */
public final class DefineTest {
    private static final Check CHECK = new Check();

    public static void main(String[] args) {
        takesFormulas();
        refusesOtherTexts();
        countsDifferentLinesWithoutPrime();
        looksAtTheDepth();
        emptiesThePad();
        refusedCallChangesNothing();
        replacesAFormula();
        CHECK.done();
    }

    private static void formula(String text, int names) {
        FormOffice office = new FormOffice();
        Forms.type(office, text);
        int got;
        try {
            got = office.define(11);
        } catch (IllegalArgumentException e) {
            got = -1;
        }
        CHECK.same("define of " + text, names, got);
    }

    private static void noFormula(String text) {
        FormOffice office = new FormOffice();
        Forms.type(office, text);
        CHECK.fails("define of " + text, IllegalArgumentException.class, () -> office.define(11));
        CHECK.same("pad behind " + text, text.length(), office.clear());
        CHECK.same("line behind " + text, false, office.input(11));
    }

    private static void takesFormulas() {
        formula("A", 1);
        formula("L", 1);
        formula("A'", 0);
        formula("0", 0);
        formula("000000", 0);
        formula("999999", 0);
        formula("A*1%", 1);
        formula("A*12%", 1);
        formula("A*000%", 1);
        formula("A'*999%", 0);
        formula("5*5%+6*6%-7", 0);
        formula("(A)", 1);
        formula("(A+B)*10%", 2);
        formula("m(A,B)", 2);
        formula("x(A<B?1:2,C)*3%", 3);
        formula("t0(A)+t1(A)-t2(A)", 1);
        formula("t2(A)*5%", 1);
        formula("A<B?C:D", 4);
        formula("A>B?C:D", 4);
        formula("A+1<B-2?C+D:E*9%", 5);
        formula("A<B?C<D?1:2:3", 4);
        formula("A<B?1:C<D?2:3", 4);
        formula("A<B?A<B?A<B?A<B?A<B?A<B?1:1:1:1:1:1:1", 2);
        formula("A<1?2:A<1?2:A<1?2:A<1?2:A<1?2:A<1?2:A", 1);
        formula("A+A+A+A+A+A+A+A+A+A+A+A+A+A+A+A+A+A+A+10", 1);
    }

    private static void refusesOtherTexts() {
        String[] texts = {
            "", "+", "-A", "+A", "A+", "A-", "A++B", "A+-B", "AB", "A1", "1A", "1234567", "'", "1'", "A''", "(A)'",
            "A*", "A*1", "A*%", "A*A%", "A*1000%", "A*1%%", "A*1%*2%", "A*1%2", "A%", "*1%", "5%", "A*(1)%", "A*1%'",
            "()", "(A", "A)", "(A))", "((A)", "A(", "A()", "A(B)", "1(B)", "(A)(B)", "(A,B)",
            "m", "x", "t", "m(", "mA", "m()", "m(A)", "m(A,B", "m(A,B,C)", "m(,B)", "m(A,)", "mm(A,B)", "m1(A,B)",
            "x(A)", "x(A,B", "x(A:B)", "t(A)", "t3(A)", "t9(A)", "t00(A)", "t0", "t0A", "t0()", "t0(A", "t0(A,B)",
            "A<", "<A", "A<B", "A<B?", "A<B?C", "A<B?C:", "A<B:C?D", "A<B?:C", "A?B:C", "A<B?C:D:E", "A<B<C?1:2",
            "A<>B?1:2", "A<B??1:2", "A:B", "A,B", "A?", ":", ",", "A<B?C,D", "A<B?C?D:E", "m(A<B,C)", "(A<B)?1:2",
            "A<B?A<B?A<B?A<B?A<B?A<B?A<B?A<B?A<B?A<B?", "A+A+A+A+A+A+A+A+A+A+A+A+A+A+A+A+A+A+A+A+",
        };
        for (String text : texts) {
            noFormula(text);
        }
    }

    private static void countsDifferentLinesWithoutPrime() {
        formula("A+A+A", 1);
        formula("A+A'", 1);
        formula("A'+B'", 0);
        formula("A'+A", 1);
        formula("A+B+C+D+E+F+G+H+I+J+K+L", 12);
        formula("m(A,B)+x(C,D)+t0(E)+(F)", 6);
        formula("A<B?C:D'", 3);
        formula("L*5%-L'", 1);
    }

    private static void looksAtTheDepth() {
        formula("((((A))))", 1);
        noFormula("(((((A)))))");
        formula("((((A*5%+B'<3?C:D))))", 3);
        formula("m(m(m(m(A,1),B),C),D)", 4);
        noFormula("m(m(m(m(m(A,1),2),3),4),5)");
        formula("x(1,x(2,x(3,x(4,A))))", 1);
        noFormula("x(1,x(2,x(3,x(4,x(5,A)))))");
        formula("t0(t1(t2(t0(A))))", 1);
        noFormula("t0(t1(t2(t0(t1(A)))))");
        noFormula("((((m(A,B)))))");
        noFormula("((((x(A,B)))))");
        noFormula("((((t0(A)))))");
        formula("m(x(t0((A)),1),2)", 1);
        noFormula("m(x(t0(((A))),1),2)");
        formula("((((A))))+((((B))))", 2);
        formula("1<2?((((A)))):((((B))))", 2);
        noFormula("1<2?((((A)))):(((((B)))))");
    }

    private static void emptiesThePad() {
        FormOffice office = new FormOffice();
        CHECK.same("define", 2, Forms.define(office, 11, "A+B"));
        CHECK.same("pad behind define", 0, office.clear());
        CHECK.fails("empty pad", IllegalArgumentException.class, () -> office.define(11));
        CHECK.same("the formula stays", true, office.input(11));
    }

    private static void refusedCallChangesNothing() {
        FormOffice office = new FormOffice();
        Forms.define(office, 11, "5");
        Forms.type(office, "A+");
        CHECK.fails("no formula", IllegalArgumentException.class, () -> office.define(11));
        CHECK.same("old formula", 5L, office.assess(0, 0));
        Forms.type(office, "B");
        for (int line : new int[] {-1, 12, Integer.MIN_VALUE, Integer.MAX_VALUE}) {
            CHECK.fails("line " + line, NoSuchElementException.class, () -> office.define(line));
        }
        CHECK.same("the pad stays", 2, office.define(0));
        CHECK.fails("empty pad, no line", NoSuchElementException.class, () -> office.define(12));
    }

    private static void replacesAFormula() {
        FormOffice office = new FormOffice();
        Forms.define(office, 0, "B+C+D");
        CHECK.same("order", 1, office.order(0));
        Forms.define(office, 0, "7");
        CHECK.same("order behind the new formula", 0, office.order(0));
        office.assess(0, 0);
        CHECK.same("value by the new formula", 7L, office.value(0, 0, 0));
        for (int line = 0; line < 12; line++) {
            Forms.define(office, line, "1" + line);
        }
        office.assess(0, 0);
        for (int line = 0; line < 12; line++) {
            CHECK.same("line " + line, Long.parseLong("1" + line), office.value(0, 0, line));
        }
    }
}
