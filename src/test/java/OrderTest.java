/** Promise 9: order. */
public final class OrderTest {
    private static final Check CHECK = new Check();

    public static void main(String[] args) {
        lowestReadyLineFirst();
        namesInAllBranchesCount();
        rings();
        wrongPlaces();
        CHECK.done();
    }

    private static void lowestReadyLineFirst() {
        FormOffice office = new FormOffice();
        Forms.define(office, 0, "F");
        CHECK.order(office, 1, 2, 3, 4, 5, 0, 6, 7, 8, 9, 10, 11);
        Forms.define(office, 1, "A+C");
        CHECK.order(office, 2, 3, 4, 5, 0, 1, 6, 7, 8, 9, 10, 11);
        Forms.define(office, 2, "L");
        CHECK.order(office, 3, 4, 5, 0, 6, 7, 8, 9, 10, 11, 2, 1);
        Forms.define(office, 5, "L'+F'");
        CHECK.order(office, 3, 4, 5, 0, 6, 7, 8, 9, 10, 11, 2, 1);
        FormOffice reversed = new FormOffice();
        for (int line = 0; line < 11; line++) {
            Forms.define(reversed, line, "" + (char) ('B' + line));
        }
        CHECK.order(reversed, 11, 10, 9, 8, 7, 6, 5, 4, 3, 2, 1, 0);
    }

    private static void namesInAllBranchesCount() {
        FormOffice office = new FormOffice();
        Forms.define(office, 0, "1<2?B:C");
        Forms.define(office, 1, "m(1,t0(D))");
        Forms.define(office, 2, "1<2?0:(E)*0%");
        CHECK.order(office, 3, 1, 4, 2, 0, 5, 6, 7, 8, 9, 10, 11);
    }

    private static void rings() {
        FormOffice office = new FormOffice();
        Forms.define(office, 2, "C");
        CHECK.order(office, 0, 1, 3, 4, 5, 6, 7, 8, 9, 10, 11);
        Forms.define(office, 0, "1>2?C:0");
        CHECK.order(office, 1, 3, 4, 5, 6, 7, 8, 9, 10, 11);
        Forms.define(office, 2, "C'");
        CHECK.order(office, 1, 2, 0, 3, 4, 5, 6, 7, 8, 9, 10, 11);
        for (int line = 0; line < 12; line++) {
            Forms.define(office, line, "" + (char) ('A' + (line + 1) % 12));
        }
        CHECK.order(office);
    }

    private static void wrongPlaces() {
        FormOffice office = new FormOffice();
        Forms.define(office, 2, "C");
        for (int place : new int[] {-1, 12, Integer.MIN_VALUE, Integer.MAX_VALUE}) {
            CHECK.fails("place " + place, IllegalArgumentException.class, () -> office.order(place));
        }
    }
}
