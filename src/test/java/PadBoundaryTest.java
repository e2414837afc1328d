/** Boundaries of the pad: promises 2 (type) and 3 (clear), and the terms on it. */
public final class PadBoundaryTest {
    private static final Check CHECK = new Check();
    private static final Boundary BOUNDARY = new Boundary(CHECK);
    /** 40 characters, whose value is 29; with another last character, one less or one more it would be another. */
    private static final String FORTY = "1+1+1+1+1+1+1+1+1+1+1+1+1+1+1+1+1+1+1+10";

    public static void main(String[] args) {
        padHasAtMostFortyCharacters();
        fullPadKeepsItsFormula();
        fullPadHasRoomAgain();
        typeRefusesOtherCharacters();
        refusedCharacterTakesNoRoom();
        namesEndWithL();
        clearTellsHowManyThereWere();
        CHECK.done();
    }

    private static void typeTimes(FormOffice office, int times) {
        for (int i = 0; i < times; i++) {
            office.type('1');
        }
    }

    /** "a PAD of at most 40 characters"; "refused with false when .. 40 are there". */
    private static void padHasAtMostFortyCharacters() {
        BOUNDARY.taken("first character", true, office -> { }, office -> office.type('1'));
        BOUNDARY.taken("39th character", true, office -> typeTimes(office, 38), office -> office.type('1'));
        BOUNDARY.taken("40th character", true, office -> typeTimes(office, 39), office -> office.type('1'));
        BOUNDARY.refused("41st character", false, office -> typeTimes(office, 40), office -> office.type('1'));
        BOUNDARY.refused("42nd character", false, office -> typeTimes(office, 41), office -> office.type('1'));
        BOUNDARY.refused("41st character, none of a formula", false,
                office -> typeTimes(office, 40), office -> office.type(' '));
        BOUNDARY.taken("39 typed", 39, office -> typeTimes(office, 39), FormOffice::clear);
        BOUNDARY.taken("40 typed", 40, office -> typeTimes(office, 40), FormOffice::clear);
        BOUNDARY.taken("41 typed", 40, office -> typeTimes(office, 41), FormOffice::clear);
        BOUNDARY.taken("100 typed", 40, office -> typeTimes(office, 100), FormOffice::clear);
    }

    private static void fullPadKeepsItsFormula() {
        CHECK.same("length", 40, FORTY.length());
        BOUNDARY.refused("41st behind a formula", false, office -> Forms.type(office, FORTY),
                office -> office.type('9'));
        FormOffice office = new FormOffice();
        Forms.type(office, FORTY);
        CHECK.same("41st", false, office.type('9'));
        CHECK.same("lines", 0, office.define(11));
        CHECK.same("value", 29L, office.assess(0, 0));
        CHECK.same("40 characters with a name at the end", 1,
                Forms.define(new FormOffice(), 0, "1+1+1+1+1+1+1+1+1+1+1+1+1+1+1+1+1+1+99+L"));
    }

    private static void fullPadHasRoomAgain() {
        FormOffice office = new FormOffice();
        typeTimes(office, 41);
        office.clear();
        typeTimes(office, 39);
        CHECK.same("40th behind clear", true, office.type('1'));
        CHECK.same("41st behind clear", false, office.type('1'));
        office.clear();
        Forms.define(office, 11, FORTY);
        typeTimes(office, 39);
        CHECK.same("40th behind define", true, office.type('1'));
        CHECK.same("41st behind define", false, office.type('1'));
        CHECK.fails("40 digits", IllegalArgumentException.class, () -> office.define(11));
        CHECK.same("41st behind a refused define", false, office.type('1'));
    }

    /** "refused with false when it is none of those that stand in formulas". */
    private static void typeRefusesOtherCharacters() {
        for (char c : "AL09'+-*%<>?:(),mxt".toCharArray()) {
            BOUNDARY.taken("character " + c, true, Forms::makeBusy, office -> office.type(c));
        }
        for (char c : " @MZ/;\"#$&.=!alnsuwyzTX[^_{|}~\t\n\r\0\u007f\u0080\u00b2\u00ff".toCharArray()) {
            BOUNDARY.refused("character " + (int) c, false, Forms::makeBusy, office -> office.type(c));
        }
        for (int wrapped : new int[] {'A' + 0x100, 'A' + 0x8000, '0' + 0x0630, Character.MAX_VALUE}) {
            BOUNDARY.refused("character " + wrapped, false, Forms::makeBusy, office -> office.type((char) wrapped));
        }
    }

    private static void refusedCharacterTakesNoRoom() {
        FormOffice office = new FormOffice();
        typeTimes(office, 39);
        CHECK.same("refused", false, office.type(' '));
        CHECK.same("40th", true, office.type('1'));
        CHECK.same("41st", false, office.type('1'));
        CHECK.same("length", 40, office.clear());
    }

    /** "LINES 0 .. 11, named A .. L". */
    private static void namesEndWithL() {
        FormOffice office = new FormOffice();
        office.total(5);
        for (int line = 0; line < 12; line++) {
            if (line != 5) {
                office.file(0, 0, line, 100 + line);
            }
        }
        Forms.define(office, 5, "A");
        CHECK.same("A is line 0", 100L, office.assess(0, 0));
        Forms.define(office, 5, "L");
        CHECK.same("L is line 11", 111L, office.assess(0, 0));
        CHECK.same("no name before A", false, office.type('@'));
        CHECK.same("no name behind L", false, office.type('M'));
    }

    /** "The pad is empty then: how many characters it had." */
    private static void clearTellsHowManyThereWere() {
        for (int typed : new int[] {0, 1, 39, 40}) {
            FormOffice office = new FormOffice();
            typeTimes(office, typed);
            CHECK.same(typed + " characters", typed, office.clear());
            CHECK.same("none behind " + typed, 0, office.clear());
            CHECK.fails("empty behind " + typed, IllegalArgumentException.class, () -> office.define(0));
        }
        BOUNDARY.taken("pad behind define", 0, office -> Forms.define(office, 0, FORTY), FormOffice::clear);
    }
}
