import java.util.List;

/** Calls that together show all that an office holds: apart, as none may go beyond an office's 512 calls. */
enum LaterCalls {
    PAD {
        @Override
        void ask(Boundary.Answers answers) {
            makeInputs(answers);
            for (int line = 0; line < 12; line++) {
                int number = 1 << line;
                int filed = line;
                answers.ask(office -> office.file(2, 3, filed, number));
            }
            answers.ask(office -> office.define(10));
            answers.ask(office -> office.type('J'));
            answers.ask(office -> office.define(11));
            answers.ask(office -> office.clear());
            answers.ask(office -> office.assess(2, 3));
            answers.ask(office -> office.value(2, 3, 10));
        }
    },
    FORM {
        @Override
        void ask(Boundary.Answers answers) {
            for (int i = 0; i < 12; i++) {
                int place = i;
                answers.ask(office -> office.order(place));
            }
            makeInputs(answers);
            answers.ask(office -> office.total(0));
            answers.ask(office -> office.interest(0));
            answers.ask(office -> office.clear());
        }
    },
    FORMULAS {
        @Override
        void ask(Boundary.Answers answers) {
            for (int taxpayer = 0; taxpayer < 3; taxpayer++) {
                for (int year = 0; year < 4; year++) {
                    int who = taxpayer;
                    int when = year;
                    answers.ask(office -> office.assess(who, when));
                }
            }
            forAllLines(answers, (office, taxpayer, year, line) -> office.value(taxpayer, year, line));
        }
    },
    TABLES {
        @Override
        void ask(Boundary.Answers answers) {
            makeInputs(answers);
            answers.ask(office -> office.clear());
            for (int i = 0; i < 3; i++) {
                int table = i;
                answers.ask(office -> Forms.define(office, 9 + table, "t" + table + "(A)"));
            }
            for (int v : new int[] {1, 3, 5, 15, 25, 35, 101, 1001, 3001, 1000000000}) {
                answers.ask(office -> office.file(2, 3, 0, v));
                answers.ask(office -> office.assess(2, 3));
                for (int i = 9; i < 12; i++) {
                    int line = i;
                    answers.ask(office -> office.value(2, 3, line));
                }
            }
            for (int i = 0; i < 3; i++) {
                int table = i;
                answers.ask(office -> office.bracket(table, 100, 7));
                answers.ask(office -> office.reset(table, 0));
            }
        }
    },
    FILED {
        @Override
        void ask(Boundary.Answers answers) {
            makeInputs(answers);
            forAllLines(answers, (office, taxpayer, year, line) -> office.file(taxpayer, year, line, 0));
        }
    },
    VALUES {
        @Override
        void ask(Boundary.Answers answers) {
            forAllLines(answers, (office, taxpayer, year, line) -> office.value(taxpayer, year, line));
        }
    },
    SHARES {
        @Override
        void ask(Boundary.Answers answers) {
            forAllLines(answers, (office, taxpayer, year, line) -> office.share(taxpayer, year, line));
        }
    },
    POSTINGS {
        @Override
        void ask(Boundary.Answers answers) {
            for (int taxpayer = 0; taxpayer < 3; taxpayer++) {
                int who = taxpayer;
                answers.ask(office -> office.balance(who));
                for (int i = 0; i < 24 * 3; i++) {
                    int at = i / 3;
                    int what = i % 3;
                    answers.ask(office -> office.posting(who, at, what));
                }
            }
        }
    };

    private interface CallOfLine {
        Object on(FormOffice office, int taxpayer, int year, int line);
    }

    abstract void ask(Boundary.Answers answers);

    List<Object> answers(FormOffice office) {
        Boundary.Answers answers = new Boundary.Answers(office);
        ask(answers);
        return answers.all();
    }

    private static void makeInputs(Boundary.Answers answers) {
        for (int i = 0; i < 12; i++) {
            int line = i;
            answers.ask(office -> office.input(line));
        }
    }

    private static void forAllLines(Boundary.Answers answers, CallOfLine call) {
        for (int i = 0; i < 3 * 4 * 12; i++) {
            int taxpayer = i / 48;
            int year = i / 12 % 4;
            int line = i % 12;
            answers.ask(office -> call.on(office, taxpayer, year, line));
        }
    }
}
