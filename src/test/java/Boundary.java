import java.util.ArrayList;
import java.util.List;

/** Looks at both sides of a boundary: what is taken, what is refused, and that a refused call leaves no trace. */
final class Boundary {
    /** The calls that lead to the boundary. */
    interface Calls {
        void on(FormOffice office);
    }

    interface Call {
        Object on(FormOffice office);
    }

    interface CallWith {
        Object on(FormOffice office, int number);
    }

    private final Check check;

    Boundary(Check check) {
        this.check = check;
    }

    void taken(String what, Object due, Calls before, Call call) {
        check.same(what, due, answer(after(before), call));
    }

    /** A refused call answers false or throws; then all later calls answer as if it had not been made. */
    void refused(String what, Object due, Calls before, Call call) {
        for (LaterCalls later : LaterCalls.values()) {
            FormOffice untouched = after(before);
            FormOffice refusing = after(before);
            check.same(what, due, answer(refusing, call));
            check.same(what + ", later calls: " + later, later.answers(untouched), later.answers(refusing));
        }
    }

    /** Numbers from the least to the most are taken, those beside them are refused. */
    void range(String what, int least, int most, Class<? extends Exception> due, Calls before, CallWith call) {
        for (int taken : new int[] {least, most}) {
            Object got = answer(after(before), office -> call.on(office, taken));
            check.same(what + " " + taken + " is taken (" + got + ")", false, got instanceof Class);
        }
        for (int refused : new int[] {least - 1, most + 1, Integer.MIN_VALUE, Integer.MAX_VALUE}) {
            refused(what + " " + refused, due, before, office -> call.on(office, refused));
        }
    }

    private static FormOffice after(Calls before) {
        FormOffice office = new FormOffice();
        before.on(office);
        return office;
    }

    /** What a call answers, or the class of what it throws. */
    private static Object answer(FormOffice office, Call call) {
        try {
            return call.on(office);
        } catch (RuntimeException e) {
            return e.getClass();
        }
    }

    /** The answers of calls in a row on one office. */
    static final class Answers {
        private final FormOffice office;
        private final List<Object> answers = new ArrayList<>();

        Answers(FormOffice office) {
            this.office = office;
        }

        void ask(Call call) {
            answers.add(answer(office, call));
        }

        List<Object> all() {
            return answers;
        }
    }
}
