/** Promises 2 (type) and 3 (clear). */
public final class PadTest {
    private static final Check CHECK = new Check();

    public static void main(String[] args) {
        takesOnlyCharactersOfFormulas();
        takesFortyCharacters();
        clearEmptiesThePad();
        refusedCharacterChangesNothing();
        CHECK.done();
    }

    private static void takesOnlyCharactersOfFormulas() {
        String formulaCharacters = "ABCDEFGHIJKL0123456789+-*%<>?:'(),mxt";
        for (int c = 0; c <= Character.MAX_VALUE; c++) {
            FormOffice office = new FormOffice();
            boolean due = formulaCharacters.indexOf(c) >= 0;
            CHECK.same("type of character " + c, due, office.type((char) c));
            CHECK.same("pad behind character " + c, due ? 1 : 0, office.clear());
        }
    }

    private static void takesFortyCharacters() {
        FormOffice office = new FormOffice();
        for (int i = 0; i < 40; i++) {
            CHECK.same("character " + i, true, office.type('A'));
        }
        CHECK.same("character 40", false, office.type('A'));
        CHECK.same("character 40 that is none", false, office.type('M'));
        CHECK.same("full pad", 40, office.clear());
        CHECK.same("type behind clear", true, office.type('A'));
        CHECK.same("pad behind clear", 1, office.clear());
    }

    private static void clearEmptiesThePad() {
        FormOffice office = new FormOffice();
        CHECK.same("empty pad", 0, office.clear());
        Forms.type(office, "A+B");
        CHECK.same("three characters", 3, office.clear());
        CHECK.same("cleared pad", 0, office.clear());
        CHECK.same("only what was typed since", 1, Forms.define(office, 11, "A"));
    }

    private static void refusedCharacterChangesNothing() {
        FormOffice office = new FormOffice();
        Forms.type(office, "12");
        CHECK.same("blank", false, office.type(' '));
        CHECK.same("M", false, office.type('M'));
        Forms.type(office, "34");
        office.define(11);
        CHECK.same("the number", 1234L, office.assess(0, 0));
    }
}
