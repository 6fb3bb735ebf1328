/** Promises 1 to 7: a new object and the calls that change the board. */
public final class BoardTest {
    private static final int NONE = BulbShapes.NONE;
    private static final int FIELDS = 4;
    private static final int LAMPS = 15;

    public static void main(String[] args) {
        aNewBoardIsDarkAndWhole();
        showGivesADigit();
        showThrows();
        numberGivesTheFieldsItsDigits();
        numberThrows();
        lampBurnsAndMends();
        lampTellsHowManyShapesChange();
        lampThrows();
        mendMendsAField();
        passAddsHoursToLitLamps();
        passBurnsBySetting1();
        passBurnsLampsThatAreNotLit();
        passGoesOnWithTheShapeThatIsLeft();
        aShapeWithoutLampsIsShownAllTheSame();
        passThrows();
        setChangesASetting();
        setThrows();
        aDigitThatCannotBeShownStaysTheDigit();
        Check.end();
    }

    private static void aNewBoardIsDarkAndWhole() {
        BulbShapes x = new BulbShapes();
        Check.due("NONE", BulbShapes.NONE, -1);
        int[] counts = {0, 0, 0, 0, 0, 0, NONE, 0};
        for (int what = 0; what < counts.length; what++) {
            Check.due("count(" + what + ") of a new board", x.count(what), counts[what]);
        }
        Check.due("setting(0) at first", x.setting(0), 2);
        Check.due("setting(1) at first", x.setting(1), 0);
        for (int f = 0; f < FIELDS; f++) {
            Check.due("digit of field " + f + " at first", x.field(f, 0), NONE);
            for (int lamp = 0; lamp < LAMPS; lamp++) {
                Check.due("lamp burnt at first", x.lampOf(f, lamp, 0), 0);
                Check.due("hours at first", x.lampOf(f, lamp, 1), 0);
                Check.due("lit at first", x.lampOf(f, lamp, 2), 0);
            }
        }
        Check.due("firstError() at first", x.firstError(), 0);
        Check.due("clearBuffer() at first", x.clearBuffer(), 0);
        Check.illegalState("undo() at first", x, x::undo);
    }

    private static void showGivesADigit() {
        BulbShapes x = new BulbShapes();
        Check.due("show(0, 8) on a dark field", x.show(0, 8), NONE);
        Check.due("show(0, 3)", x.show(0, 3), 8);
        Check.due("its digit", x.field(0, 0), 3);
        Check.due("its lamps", x.field(0, 2), 071717);
        Check.due("the next field", x.field(1, 0), NONE);
        Check.due("show(0, NONE)", x.show(0, NONE), 3);
        Check.due("its digit when dark", x.field(0, 0), NONE);
        Check.due("its lamps when dark", x.field(0, 2), 0);
        Check.due("show(3, 0)", x.show(3, 0), NONE);
        Check.due("saved states", x.count(7), 4);
        Check.due("show(3, 0) again", x.show(3, 0), 0);
        Check.due("saved states behind a call that changes nothing", x.count(7), 5);
        x.undo();
        x.undo();
        Check.due("digit behind undo", x.field(3, 0), NONE);
    }

    private static void showThrows() {
        BulbShapes x = new BulbShapes();
        x.set(0, 5);
        for (int field : new int[] {-1, 4, Integer.MIN_VALUE, Integer.MAX_VALUE}) {
            Check.outOfBounds("show(" + field + ", 1)", x, () -> x.show(field, 1));
            Check.outOfBounds("show(" + field + ", 10)", x, () -> x.show(field, 10));
        }
        for (int digit : new int[] {-2, 10, Integer.MIN_VALUE, Integer.MAX_VALUE}) {
            Check.illegalArgument("show(0, " + digit + ")", x, () -> x.show(0, digit));
        }
        for (int digit : new int[] {5, 7, 8, 9}) {
            Check.illegalState("show(0, " + digit + ") with setting 0 at 5", x, () -> x.show(0, digit));
        }
        Check.due("show(0, 6) with setting 0 at 5", x.show(0, 6), NONE);
    }

    private static void numberGivesTheFieldsItsDigits() {
        BulbShapes x = new BulbShapes();
        dueDigits(x, 4, 9999, 9, 9, 9, 9);
        dueDigits(x, 3, 120, NONE, 1, 2, 0);
        dueDigits(x, 1, 7, NONE, NONE, NONE, 7);
        dueDigits(x, 2, 10, NONE, NONE, 1, 0);
        dueDigits(x, 4, 1000, 1, 0, 0, 0);
        dueDigits(x, 1, 0, NONE, NONE, NONE, 0);
        Check.due("saved states behind six numbers", x.count(7), 6);
        x.undo();
        Check.due("number behind undo", x.count(6), 1000);
    }

    private static void dueDigits(BulbShapes x, int has, int number, int... digits) {
        Check.due("number(" + number + ")", x.number(number), has);
        for (int f = 0; f < FIELDS; f++) {
            Check.due("digit of field " + f + " in " + number, x.field(f, 0), digits[f]);
        }
    }

    private static void numberThrows() {
        BulbShapes x = new BulbShapes();
        x.number(42);
        x.set(0, 5);
        for (int number : new int[] {-1, 10000, 10008, Integer.MIN_VALUE, Integer.MAX_VALUE}) {
            Check.illegalArgument("number(" + number + ")", x, () -> x.number(number));
        }
        for (int number : new int[] {5, 50, 500, 5000, 1234 + 1, 9999, 8}) {
            Check.illegalState("number(" + number + ") with setting 0 at 5", x, () -> x.number(number));
        }
        Check.due("number(6042) with setting 0 at 5", x.number(6042), 4);
    }

    private static void lampBurnsAndMends() {
        BulbShapes x = new BulbShapes();
        x.number(1);
        x.pass(7);
        Check.due("hours of lamp 1", x.lampOf(3, 1, 1), 7);
        x.lamp(3, 1, true);
        Check.due("lamp 1 burnt", x.lampOf(3, 1, 0), 1);
        Check.due("hours of a lamp that is burnt", x.lampOf(3, 1, 1), 7);
        Check.due("burnt by their hours", x.count(5), 0);
        x.lamp(3, 1, true);
        Check.due("lamp 1 burnt again", x.count(1), 1);
        x.lamp(3, 1, false);
        Check.due("lamp 1 mended", x.lampOf(3, 1, 0), 0);
        Check.due("hours of a lamp that is mended", x.lampOf(3, 1, 1), 0);
        Check.due("hours of lamp 3", x.lampOf(3, 3, 1), 7);
        x.lamp(3, 3, false);
        Check.due("hours of a lamp that is mended though it worked", x.lampOf(3, 3, 1), 0);
        Check.due("saved states", x.count(7), 6);
        x.undo();
        Check.due("hours behind undo", x.lampOf(3, 3, 1), 7);
    }

    private static void lampTellsHowManyShapesChange() {
        BulbShapes x = new BulbShapes();
        Check.due("lamp(0, 7, true)", x.lamp(0, 7, true), 2);
        Check.due("lamp(0, 7, true) again", x.lamp(0, 7, true), 0);
        Check.due("lamp(0, 7, false)", x.lamp(0, 7, false), 2);
        x.set(0, 5);
        int[] before = shapes(x, 0);
        int changes = x.lamp(0, 6, true);
        int[] then = shapes(x, 0);
        int want = 0;
        for (int digit = 0; digit < before.length; digit++) {
            want += before[digit] == then[digit] ? 0 : 1;
        }
        Check.due("lamp(0, 6, true) with setting 0 at 5", changes, want);
        for (int lamp = 0; lamp < LAMPS; lamp++) {
            x.lamp(1, lamp, true);
        }
        Check.due("digits left without lamps", x.field(1, 5), 1);
        Check.due("the other field", x.field(2, 3), 0);
    }

    private static int[] shapes(BulbShapes x, int field) {
        int[] shapes = new int[10];
        for (int digit = 0; digit < shapes.length; digit++) {
            shapes[digit] = x.table(field, digit, 0);
        }
        return shapes;
    }

    private static void lampThrows() {
        BulbShapes x = new BulbShapes();
        for (int field : new int[] {-1, 4, Integer.MIN_VALUE, Integer.MAX_VALUE}) {
            Check.outOfBounds("lamp(" + field + ", 0, true)", x, () -> x.lamp(field, 0, true));
        }
        for (int lamp : new int[] {-1, 15, Integer.MIN_VALUE, Integer.MAX_VALUE}) {
            Check.outOfBounds("lamp(0, " + lamp + ", true)", x, () -> x.lamp(0, lamp, true));
            Check.outOfBounds("lamp(3, " + lamp + ", false)", x, () -> x.lamp(3, lamp, false));
        }
    }

    private static void mendMendsAField() {
        BulbShapes x = new BulbShapes();
        x.number(88);
        x.pass(3);
        x.lamp(2, 0, true);
        x.lamp(2, 14, true);
        x.lamp(3, 4, true);
        Check.due("mend(2)", x.mend(2), 2);
        Check.due("burnt lamps of field 2", x.field(2, 3), 0);
        Check.due("missing lamps of the 2 in field 2", x.table(2, 2, 2), 0);
        Check.due("shape of the 0 in field 2", x.table(2, 0, 0), 0);
        Check.due("burnt lamps of field 3", x.field(3, 3), 1);
        for (int lamp = 0; lamp < LAMPS; lamp++) {
            Check.due("hours of lamp " + lamp, x.lampOf(2, lamp, 1), 0);
        }
        Check.due("hours of field 3", x.lampOf(3, 1, 1), 3);
        Check.due("mend(2) again", x.mend(2), 0);
        Check.due("saved states", x.count(7), 6);
        x.undo();
        x.undo();
        Check.due("burnt lamps behind undo", x.field(2, 3), 2);
        Check.due("hours behind undo", x.lampOf(2, 1, 1), 3);
        Check.outOfBounds("mend(-1)", x, () -> x.mend(-1));
        Check.outOfBounds("mend(4)", x, () -> x.mend(4));
    }

    private static void passAddsHoursToLitLamps() {
        BulbShapes x = new BulbShapes();
        x.number(1);
        Check.due("pass(1)", x.pass(1), 0);
        Check.due("pass(500)", x.pass(500), 0);
        Check.due("hours that passed", x.count(0), 501);
        int lit = 026227;
        for (int lamp = 0; lamp < LAMPS; lamp++) {
            int want = (lit >> (14 - lamp) & 1) * 501;
            Check.due("hours of lamp " + lamp, x.lampOf(3, lamp, 1), want);
            Check.due("hours of a dark field", x.lampOf(2, lamp, 1), 0);
        }
        x.undo();
        Check.due("hours that passed behind undo", x.count(0), 1);
        Check.due("hours of a lamp behind undo", x.lampOf(3, 1, 1), 1);
    }

    private static void passBurnsBySetting1() {
        BulbShapes x = new BulbShapes();
        x.number(1);
        x.set(1, 2);
        Check.due("pass(199)", x.pass(199), 0);
        Check.due("pass(1)", x.pass(1), 8);
        Check.due("burnt by their hours", x.count(5), 8);
        Check.due("burnt", x.field(3, 3), 8);
        Check.due("hours of a burnt lamp", x.lampOf(3, 1, 1), 200);
        Check.due("lamps of the shape 13111 that are left", x.field(3, 2), 011110);
        Check.due("undo()", x.undo(), 3);
        Check.due("burnt by their hours behind undo", x.count(5), 0);
        Check.due("burnt behind undo", x.count(1), 0);
        x.show(0, 7);
        x.mend(3);
        Check.due("pass(200) of two digits", x.pass(200), 8 + 7);
        Check.due("lamp 0 of the 7", x.lampOf(0, 0, 0), 1);
        Check.due("hours of lamp 0 of the 7", x.lampOf(0, 0, 1), 200);
        x.undo();
        x.set(1, 0);
        Check.due("pass(500) without a life", x.pass(500), 0);
    }

    private static void passBurnsLampsThatAreNotLit() {
        BulbShapes x = new BulbShapes();
        x.number(1);
        x.pass(150);
        x.show(3, NONE);
        x.set(1, 1);
        Check.due("burnt before an hour passes", x.count(1), 0);
        Check.due("pass(1)", x.pass(1), 8);
        Check.due("hours of a lamp that was not lit", x.lampOf(3, 1, 1), 150);
        Check.due("pass(1) again: burnt lamps do not burn", x.pass(1), 0);
        Check.due("burnt by their hours", x.count(5), 8);
    }

    private static void passGoesOnWithTheShapeThatIsLeft() {
        BulbShapes x = new BulbShapes();
        x.set(0, 1);
        x.set(1, 1);
        x.number(1);
        Check.due("pass(250): two shapes of the 1", x.pass(250), 12);
        Check.due("hours of a lamp of the first shape", x.lampOf(3, 1, 1), 100);
        Check.due("hours of a lamp of the second shape", x.lampOf(3, 2, 1), 100);
        Check.due("hours that passed", x.count(0), 250);
        Check.due("saved states: it is one call", x.count(7), 4);
    }

    private static void aShapeWithoutLampsIsShownAllTheSame() {
        BulbShapes x = new BulbShapes();
        x.number(1);
        x.set(0, 5);
        x.set(1, 1);
        Check.due("pass(500)", x.pass(500), 8);
        Check.due("its shape", x.field(3, 1), 1);
        Check.due("its lamps", x.field(3, 2), 0);
        Check.due("its missing lamps", x.field(3, 4), 5);
        Check.due("dark fields", x.count(3), 0);
        Check.due("the number", x.count(6), 1);
        Check.due("nextBurn()", x.nextBurn(), NONE);
    }

    private static void passThrows() {
        BulbShapes x = new BulbShapes();
        for (int hours : new int[] {0, -1, 501, Integer.MIN_VALUE, Integer.MAX_VALUE}) {
            Check.illegalArgument("pass(" + hours + ")", x, () -> x.pass(hours));
        }
        for (int i = 0; i < 199; i++) {
            x.pass(500);
        }
        Check.illegalState("pass(500) behind 99500 hours", x, () -> x.pass(500));
        Check.due("pass(499) behind 99500 hours", x.pass(499), 0);
        Check.due("hours that passed", x.count(0), 99999);
        Check.illegalState("pass(1) behind 99999 hours", x, () -> x.pass(1));
        Check.illegalArgument("pass(0) behind 99999 hours", x, () -> x.pass(0));
        Check.illegalArgument("pass(501) behind 99999 hours", x, () -> x.pass(501));
    }

    private static void setChangesASetting() {
        BulbShapes x = new BulbShapes();
        Check.due("set(0, 5)", x.set(0, 5), 2);
        Check.due("set(0, 1)", x.set(0, 1), 5);
        Check.due("set(1, 99)", x.set(1, 99), 0);
        Check.due("set(1, 0)", x.set(1, 0), 99);
        Check.due("setting(0)", x.setting(0), 1);
        Check.due("set(0, 1) again", x.set(0, 1), 1);
        Check.due("saved states", x.count(7), 5);
        x.undo();
        x.undo();
        Check.due("setting(1) behind undo", x.setting(1), 99);
        x.set(0, 4);
        Check.due("tables of all fields", x.field(0, 5) == x.field(3, 5) && x.field(3, 5) != 1023, true);
    }

    private static void setThrows() {
        BulbShapes x = new BulbShapes();
        for (int setting : new int[] {-1, 2, Integer.MIN_VALUE, Integer.MAX_VALUE}) {
            Check.outOfBounds("set(" + setting + ", 1)", x, () -> x.set(setting, 1));
            Check.outOfBounds("set(" + setting + ", -1)", x, () -> x.set(setting, -1));
        }
        for (int value : new int[] {0, 6, -1, Integer.MIN_VALUE, Integer.MAX_VALUE}) {
            Check.illegalArgument("set(0, " + value + ")", x, () -> x.set(0, value));
        }
        for (int value : new int[] {-1, 100, Integer.MIN_VALUE, Integer.MAX_VALUE}) {
            Check.illegalArgument("set(1, " + value + ")", x, () -> x.set(1, value));
        }
    }

    private static void aDigitThatCannotBeShownStaysTheDigit() {
        BulbShapes x = new BulbShapes();
        x.show(2, 8);
        x.set(0, 5);
        Check.due("its digit", x.field(2, 0), 8);
        Check.due("its shape", x.field(2, 1), NONE);
        Check.due("its lamps", x.field(2, 2), 0);
        Check.due("its missing lamps", x.field(2, 4), 0);
        x.pass(10);
        Check.due("hours of a dark digit", x.lampOf(2, 4, 1), 0);
        Check.due("show(2, NONE) tells the digit", x.show(2, NONE), 8);
        x.undo();
        x.set(0, 2);
        Check.due("its shape, shown again", x.field(2, 1), 1);
        Check.due("its lamps, shown again", x.field(2, 2), 025252);
    }
}
