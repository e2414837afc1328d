/** Promise 1: a new object. */
public final class NewObjectTest {
    public static void main(String[] args) {
        Check check = new Check();
        FormOffice office = new FormOffice();
        check.same("pad", 0, office.clear());
        for (int line = 0; line < 12; line++) {
            check.same("order " + line, line, office.order(line));
            check.same("input " + line, false, office.input(line));
        }
        check.same("total line", 11, office.total(11));
        check.same("rate of interest", 0, office.interest(0));
        check.done();
    }
}
