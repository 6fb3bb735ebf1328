/** Promises 1 to 7: a new object and the calls that change the board. */
final class BoardBoundaries {
    private static final int NONE = Boards.NONE;

    private BoardBoundaries() {
    }

    static void run() {
        promise1();
        promise2();
        promise3();
        promise4();
        promise5();
        promise6();
        promise7();
    }

    private static void promise1() {
        Sentences.in("Promise 1");
        Sentences.holds("Creates a dark board", BoardBoundaries::newBoardIsDark);
        Sentences.holds("whose lamps all work", BoardBoundaries::newLampsWork);
        Sentences.holds("with an empty buffer.", BoardBoundaries::newBufferIsEmpty);
        Sentences.holds("Creates a dark board whose lamps all work, with an empty buffer.",
                BoardBoundaries::newBoardsAreApart);
    }

    private static void newBoardIsDark() {
        BulbShapes x = new BulbShapes();
        Boards.dueDigits(x, NONE, NONE, NONE, NONE);
        int[] counts = {0, 0, 0, 0, 0, 0, NONE, 0};
        for (int what = 0; what < counts.length; what++) {
            Check.due("count(" + what + ")", x.count(what), counts[what]);
        }
    }

    private static void newLampsWork() {
        BulbShapes x = new BulbShapes();
        for (int f = 0; f < Boards.FIELDS; f++) {
            for (int lamp = 0; lamp < Boards.LAMPS; lamp++) {
                Check.due("lampOf(" + f + ", " + lamp + ", 0)", x.lampOf(f, lamp, 0), 0);
                Check.due("lampOf(" + f + ", " + lamp + ", 1)", x.lampOf(f, lamp, 1), 0);
            }
        }
    }

    private static void newBufferIsEmpty() {
        BulbShapes x = new BulbShapes();
        Check.due("clearBuffer()", x.clearBuffer(), 0);
        Check.illegalState("undo()", x, x::undo);
    }

    /** What one object is told another one does not know. */
    private static void newBoardsAreApart() {
        BulbShapes x = new BulbShapes();
        long before = x.digest();
        BulbShapes y = new BulbShapes();
        y.number(8);
        y.set(0, 5);
        y.set(1, 1);
        y.pass(100);
        Check.write(y, "0-a;1-b");
        y.lamps();
        Check.write(y, "0-");
        Check.due("digest() of the other board", x.digest(), before);
        Check.due("digest() of a new board", new BulbShapes().digest(), before);
    }

    private static void promise2() {
        Sentences.in("Promise 2");
        Sentences.holds("Gives a field a digit.", BoardBoundaries::showGives);
        Sentences.holds("Undoable.", BoardBoundaries::showIsUndoable);
        Sentences.holds("`field`: 0 to 3", BoardBoundaries::showFields);
        Sentences.holds("`digit`: 0 to 9, or NONE", BoardBoundaries::showDigits);
        Sentences.holds("NONE: it is dark", BoardBoundaries::showNone);
        Sentences.holds("Returns the previous digit, NONE if there was none.", BoardBoundaries::showReturns);
        Sentences.holds("Throws `IndexOutOfBoundsException` if there is no such field",
                BoardBoundaries::showWithoutField);
        Sentences.holds("Throws `IllegalArgumentException` if digit is out of range",
                BoardBoundaries::showWithoutDigit);
        Sentences.holds("Throws `IllegalStateException` if the digit cannot be shown there",
                BoardBoundaries::showWhatCannotBeShown);
        Sentences.holds("cannot be shown there", BoardBoundaries::showWhatCannotBeShownThere);
    }

    private static void showGives() {
        BulbShapes x = new BulbShapes();
        x.show(1, 4);
        Boards.dueDigits(x, NONE, 4, NONE, NONE);
        Check.due("field(1, 2)", x.field(1, 2), 055711);
        x.show(1, 2);
        Boards.dueDigits(x, NONE, 2, NONE, NONE);
    }

    private static void showIsUndoable() {
        BulbShapes x = new BulbShapes();
        x.show(2, 6);
        Boards.dueUndoable(x, "show(2, 3)", () -> x.show(2, 3));
        Boards.dueUndoable(x, "show(2, 6) again", () -> x.show(2, 6));
        Boards.dueUndoable(x, "show(2, NONE)", () -> x.show(2, NONE));
    }

    private static void showFields() {
        BulbShapes x = new BulbShapes();
        Check.due("show(0, 5)", x.show(0, 5), NONE);
        Check.due("show(3, 7)", x.show(3, 7), NONE);
        Boards.dueDigits(x, 5, NONE, NONE, 7);
    }

    private static void showDigits() {
        BulbShapes x = new BulbShapes();
        for (int digit = 0; digit <= 9; digit++) {
            x.show(1, digit);
            Check.due("field(1, 0) behind show(1, " + digit + ")", x.field(1, 0), digit);
        }
    }

    private static void showNone() {
        BulbShapes x = new BulbShapes();
        x.show(1, 8);
        x.show(1, NONE);
        Check.due("field(1, 0)", x.field(1, 0), NONE);
        Check.due("field(1, 2)", x.field(1, 2), 0);
        Boards.burnAll(x, 1);
        Check.due("show(1, NONE) without lamps", x.show(1, NONE), NONE);
    }

    private static void showReturns() {
        BulbShapes x = new BulbShapes();
        Check.due("show(0, 0)", x.show(0, 0), NONE);
        Check.due("show(0, 9)", x.show(0, 9), 0);
        Check.due("show(0, 9) again", x.show(0, 9), 9);
        x.set(0, 5);
        Check.due("show(0, 1) on a digit that is dark", x.show(0, 1), 9);
        Check.due("show(0, NONE)", x.show(0, NONE), 1);
        Check.due("show(0, NONE) again", x.show(0, NONE), NONE);
    }

    private static void showWithoutField() {
        BulbShapes x = new BulbShapes();
        for (int field : Boards.beyond(0, 3)) {
            Check.outOfBounds("show(" + field + ", 0)", x, () -> x.show(field, 0));
            Check.outOfBounds("show(" + field + ", NONE)", x, () -> x.show(field, NONE));
        }
    }

    private static void showWithoutDigit() {
        BulbShapes x = new BulbShapes();
        for (int digit : Boards.beyond(NONE, 9)) {
            Check.illegalArgument("show(0, " + digit + ")", x, () -> x.show(0, digit));
        }
    }

    private static void showWhatCannotBeShown() {
        BulbShapes x = new BulbShapes();
        x.show(0, 5);
        x.set(0, 5);
        for (int digit = 0; digit < Boards.DIGITS; digit++) {
            int shown = digit;
            if ((0b1110100000 >> digit & 1) == 1) {
                Check.illegalState("show(0, " + digit + ")", x, () -> x.show(0, shown));
            } else {
                x.show(1, digit);
                Check.due("field(1, 0)", x.field(1, 0), digit);
            }
        }
        Check.due("the 5, that was its digit already, stays", x.field(0, 0), 5);
    }

    private static void showWhatCannotBeShownThere() {
        BulbShapes x = Boards.without(3, 6);
        Check.illegalState("show(3, 8) without the lamp 6", x, () -> x.show(3, 8));
        Check.due("show(2, 8)", x.show(2, 8), NONE);
        x.lamp(3, 6, false);
        Check.due("show(3, 8) with the lamp 6", x.show(3, 8), NONE);
        Boards.burnAll(x, 3);
        Check.illegalState("show(3, 1) without lamps", x, () -> x.show(3, 1));
        Check.due("show(3, 0) without lamps", x.show(3, 0), 8);
    }

    private static void promise3() {
        Sentences.in("Promise 3");
        Sentences.holds("Gives the fields the digits of a number, its last digit the field 3;",
                BoardBoundaries::numberGives);
        Sentences.holds("fields ahead of its first digit are dark", BoardBoundaries::fieldsAheadAreDark);
        Sentences.holds("(the number 0 has one digit)", BoardBoundaries::number0HasOneDigit);
        Sentences.holds("Undoable.", BoardBoundaries::numberIsUndoable);
        Sentences.holds("`number`: 0 to 9999", BoardBoundaries::numberRange);
        Sentences.holds("Returns how many fields have a digit then.", BoardBoundaries::numberReturns);
        Sentences.holds("Throws `IllegalArgumentException` if number is out of range",
                BoardBoundaries::numberOutOfRange);
        Sentences.holds("Throws `IllegalStateException` if one of its digits cannot be shown at its field",
                BoardBoundaries::numberThatCannotBeShown);
    }

    private static void numberGives() {
        BulbShapes x = new BulbShapes();
        x.number(1234);
        Boards.dueDigits(x, 1, 2, 3, 4);
        x.number(9000);
        Boards.dueDigits(x, 9, 0, 0, 0);
    }

    private static void fieldsAheadAreDark() {
        BulbShapes x = new BulbShapes();
        x.number(8888);
        x.number(999);
        Boards.dueDigits(x, NONE, 9, 9, 9);
        x.number(8888);
        x.number(10);
        Boards.dueDigits(x, NONE, NONE, 1, 0);
        x.number(8888);
        x.number(9);
        Boards.dueDigits(x, NONE, NONE, NONE, 9);
        Check.due("field(2, 2)", x.field(2, 2), 0);
    }

    private static void number0HasOneDigit() {
        BulbShapes x = new BulbShapes();
        x.number(8888);
        Check.due("number(0)", x.number(0), 1);
        Boards.dueDigits(x, NONE, NONE, NONE, 0);
        Check.due("count(6)", x.count(6), 0);
    }

    private static void numberIsUndoable() {
        BulbShapes x = new BulbShapes();
        x.number(70);
        Boards.dueUndoable(x, "number(9999)", () -> x.number(9999));
        Boards.dueUndoable(x, "number(70) again", () -> x.number(70));
    }

    private static void numberRange() {
        BulbShapes x = new BulbShapes();
        x.number(0);
        Check.due("count(6)", x.count(6), 0);
        x.number(9999);
        Check.due("count(6)", x.count(6), 9999);
    }

    private static void numberReturns() {
        int[] numbers = {0, 9, 10, 99, 100, 999, 1000, 9999};
        for (int i = 0; i < numbers.length; i++) {
            BulbShapes x = new BulbShapes();
            x.number(8888);
            Check.due("number(" + numbers[i] + ")", x.number(numbers[i]), 1 + i / 2);
            Check.due("count(2)", x.count(2), 1 + i / 2);
        }
    }

    private static void numberOutOfRange() {
        BulbShapes x = new BulbShapes();
        for (int number : Boards.beyond(0, 9999)) {
            Check.illegalArgument("number(" + number + ")", x, () -> x.number(number));
        }
    }

    /** With setting 0 at 3 the 8 cannot be shown without the lamp 6. */
    private static void numberThatCannotBeShown() {
        int[] places = {1000, 100, 10, 1};
        for (int field = 0; field < Boards.FIELDS; field++) {
            BulbShapes x = new BulbShapes();
            x.set(0, 3);
            x.lamp(field, 6, true);
            x.number(4321);
            int one = 8 * places[field];
            int most = 8888 - one;
            Check.illegalState("number(" + one + ") without the lamp 6 of field " + field, x, () -> x.number(one));
            Check.illegalState("number(8888)", x, () -> x.number(8888));
            Check.due("number behind it", x.count(6), 4321);
            Check.due("number(" + most + ")", Check.told(() -> x.number(most)), field == 0 ? "3" : "4");
        }
    }

    private static void promise4() {
        Sentences.in("Promise 4");
        Sentences.holds("Burns a lamp", BoardBoundaries::lampBurns);
        Sentences.holds("or mends it (its hours are 0 then).", BoardBoundaries::lampMends);
        Sentences.holds("Undoable.", BoardBoundaries::lampIsUndoable);
        Sentences.holds("`field`: 0 to 3", BoardBoundaries::lampFields);
        Sentences.holds("`lamp`: 0 to 14", BoardBoundaries::lampLamps);
        Sentences.holds("`isBurnt`: whether it is burnt from now on", BoardBoundaries::burntFromNowOn);
        Sentences.holds("Returns how many digits have another shape there then", BoardBoundaries::otherShapes);
        Sentences.holds("or none instead of one", BoardBoundaries::noneInsteadOfOne);
        Sentences.holds("or one instead of none.", BoardBoundaries::oneInsteadOfNone);
        Sentences.holds("Throws `IndexOutOfBoundsException` if there is no such field or lamp",
                BoardBoundaries::noSuchLamp);
    }

    private static void lampBurns() {
        BulbShapes x = Boards.living(1, 0);
        x.pass(7);
        x.lamp(3, 1, true);
        Check.due("lampOf(3, 1, 0)", x.lampOf(3, 1, 0), 1);
        Check.due("its hours stay", x.lampOf(3, 1, 1), 7);
        Check.due("lamps that burnt by their hours", x.count(5), 0);
        x.pass(1);
        Check.due("the hours of a lamp that is not lit", x.lampOf(3, 1, 1), 7);
    }

    private static void lampMends() {
        BulbShapes x = Boards.living(1, 0);
        x.pass(7);
        x.lamp(3, 1, true);
        x.lamp(3, 1, false);
        Check.due("lampOf(3, 1, 0)", x.lampOf(3, 1, 0), 0);
        Check.due("its hours", x.lampOf(3, 1, 1), 0);
        x.lamp(3, 3, false);
        Check.due("the hours of a lamp that worked", x.lampOf(3, 3, 1), 0);
        Check.due("the hours of another lamp", x.lampOf(3, 4, 1), 7);
        x.lamp(2, 4, false);
        Check.due("the hours of a lamp of another field", x.lampOf(3, 4, 1), 7);
    }

    private static void lampIsUndoable() {
        BulbShapes x = Boards.living(1, 0);
        x.pass(7);
        Boards.dueUndoable(x, "lamp(3, 1, true)", () -> x.lamp(3, 1, true));
        Boards.dueUndoable(x, "lamp(3, 1, false) of a lamp that works", () -> x.lamp(3, 1, false));
        x.lamp(0, 14, true);
        Boards.dueUndoable(x, "lamp(0, 14, true) of a burnt lamp", () -> x.lamp(0, 14, true));
    }

    private static void lampFields() {
        for (int field = 0; field < Boards.FIELDS; field++) {
            BulbShapes x = new BulbShapes();
            x.lamp(field, 3, true);
            for (int f = 0; f < Boards.FIELDS; f++) {
                Check.due("field(" + f + ", 3)", x.field(f, 3), f == field ? 1 : 0);
            }
        }
    }

    private static void lampLamps() {
        for (int burnt = 0; burnt < Boards.LAMPS; burnt++) {
            BulbShapes x = new BulbShapes();
            x.lamp(1, burnt, true);
            for (int lamp = 0; lamp < Boards.LAMPS; lamp++) {
                Check.due("lampOf(1, " + lamp + ", 0)", x.lampOf(1, lamp, 0), lamp == burnt ? 1 : 0);
            }
        }
    }

    private static void burntFromNowOn() {
        BulbShapes x = new BulbShapes();
        boolean[] told = {true, true, false, false, true};
        for (boolean isBurnt : told) {
            x.lamp(2, 0, isBurnt);
            Check.due("lampOf(2, 0, 0) behind " + isBurnt, x.lampOf(2, 0, 0), isBurnt ? 1 : 0);
            Check.due("burnt lamps", x.count(1), isBurnt ? 1 : 0);
        }
    }

    private static void otherShapes() {
        int[] changes = {4, 1, 6, 4, 0, 1, 3, 2, 6, 2, 1, 2, 6, 1, 6};
        for (int lamp = 0; lamp < Boards.LAMPS; lamp++) {
            BulbShapes x = new BulbShapes();
            String call = "lamp(0, " + lamp + ", ";
            Check.due(call + "true)", x.lamp(0, lamp, true), changes[lamp]);
            Check.due(call + "true) again", x.lamp(0, lamp, true), 0);
            Check.due(call + "false)", x.lamp(0, lamp, false), changes[lamp]);
            Check.due(call + "false) again", x.lamp(0, lamp, false), 0);
        }
    }

    private static void noneInsteadOfOne() {
        BulbShapes x = Boards.without(4);
        // the 5 alone loses its shape
        Check.due("lamp(3, 5, true)", x.lamp(3, 5, true), 1);
        Check.due("shape of the 5", x.table(3, 5, 0), NONE);
    }

    private static void oneInsteadOfNone() {
        BulbShapes x = Boards.without(4, 5);
        Check.due("lamp(3, 5, false)", x.lamp(3, 5, false), 1);
        Check.due("shape of the 5", x.table(3, 5, 0), 1);
        BulbShapes y = Boards.without(5);
        // 5, 7 and 9 have a shape instead of none, 3 and 6 none instead of one, 1 and 4 another one
        Check.due("lamp(3, 3, true) with setting 0 at 5", y.lamp(3, 3, true), 7);
        Boards.dueShapes("without the lamp 3", y, 3, 0, 1, 1, NONE, 2, 1, NONE, 1, NONE, 2);
    }

    private static void noSuchLamp() {
        BulbShapes x = new BulbShapes();
        for (int field : Boards.beyond(0, 3)) {
            Check.outOfBounds("lamp(" + field + ", 0, true)", x, () -> x.lamp(field, 0, true));
            Check.outOfBounds("lamp(" + field + ", 0, false)", x, () -> x.lamp(field, 0, false));
        }
        for (int lamp : Boards.beyond(0, 14)) {
            Check.outOfBounds("lamp(0, " + lamp + ", true)", x, () -> x.lamp(0, lamp, true));
            Check.outOfBounds("lamp(3, " + lamp + ", true)", x, () -> x.lamp(3, lamp, true));
            Check.outOfBounds("lamp(1, " + lamp + ", false)", x, () -> x.lamp(1, lamp, false));
        }
    }

    private static void promise5() {
        Sentences.in("Promise 5");
        Sentences.holds("Mends all lamps of a field;", BoardBoundaries::mendMends);
        Sentences.holds("their hours are 0.", BoardBoundaries::mendedHours);
        Sentences.holds("Undoable.", BoardBoundaries::mendIsUndoable);
        Sentences.holds("`field`: 0 to 3", BoardBoundaries::mendFields);
        Sentences.holds("Returns how many were burnt.", BoardBoundaries::mendReturns);
        Sentences.holds("Throws `IndexOutOfBoundsException` if there is no such field",
                BoardBoundaries::mendWithoutField);
    }

    private static void mendMends() {
        BulbShapes x = new BulbShapes();
        Boards.burnAll(x, 1);
        Boards.burn(x, 2, 0);
        x.mend(1);
        for (int lamp = 0; lamp < Boards.LAMPS; lamp++) {
            Check.due("lampOf(1, " + lamp + ", 0)", x.lampOf(1, lamp, 0), 0);
        }
        Check.due("burnt lamps of the next field", x.field(2, 3), 1);
    }

    private static void mendedHours() {
        BulbShapes x = new BulbShapes();
        x.number(8808);
        x.pass(4);
        x.lamp(1, 1, true);
        x.mend(1);
        Boards.dueHours(x, 1, 0, 0);
        Boards.dueHours(x, 0, 025252, 4);
        Boards.dueHours(x, 2, 075557, 4);
    }

    private static void mendIsUndoable() {
        BulbShapes x = new BulbShapes();
        x.number(8888);
        x.pass(4);
        Boards.dueUndoable(x, "mend(3) of whole lamps with hours", () -> x.mend(3));
        x.lamp(0, 14, true);
        Boards.dueUndoable(x, "mend(0)", () -> x.mend(0));
        Boards.dueUndoable(x, "mend(1) that has nothing to mend", () -> x.mend(1));
    }

    private static void mendFields() {
        for (int field = 0; field < Boards.FIELDS; field++) {
            BulbShapes x = new BulbShapes();
            for (int f = 0; f < Boards.FIELDS; f++) {
                x.lamp(f, 2, true);
            }
            x.mend(field);
            for (int f = 0; f < Boards.FIELDS; f++) {
                Check.due("field(" + f + ", 3)", x.field(f, 3), f == field ? 0 : 1);
            }
        }
    }

    private static void mendReturns() {
        BulbShapes x = new BulbShapes();
        Check.due("mend(0) of whole lamps", x.mend(0), 0);
        Boards.burnAll(x, 0);
        Check.due("mend(0) of burnt ones", x.mend(0), 15);
        x.lamp(0, 0, true);
        x.lamp(1, 14, true);
        x.lamp(1, 13, true);
        Check.due("mend(1)", x.mend(1), 2);
        Check.due("mend(0)", x.mend(0), 1);
    }

    private static void mendWithoutField() {
        BulbShapes x = new BulbShapes();
        for (int field : Boards.beyond(0, 3)) {
            Check.outOfBounds("mend(" + field + ")", x, () -> x.mend(field));
        }
    }

    private static void promise6() {
        Sentences.in("Promise 6");
        Sentences.holds("Lets hours pass.", BoardBoundaries::passPasses);
        Sentences.holds("Undoable, as one call.", BoardBoundaries::passIsUndoable);
        Sentences.holds("`hours`: 1 to 500", BoardBoundaries::passHours);
        Sentences.holds("Returns how many lamps burn in them.", BoardBoundaries::passReturns);
        Sentences.holds("how many lamps burn in them", BoardBoundaries::passThroughSeveralBurnings);
        Sentences.holds("Throws `IllegalArgumentException` if hours is out of range",
                BoardBoundaries::passOutOfRange);
        Sentences.holds("Throws `IllegalStateException` if more than 99999 hours would have passed",
                BoardBoundaries::passNoMoreThan99999);
    }

    private static void passPasses() {
        BulbShapes x = Boards.living(0, 0);
        x.pass(1);
        Check.due("hours that passed", x.count(0), 1);
        x.pass(3);
        Check.due("hours that passed", x.count(0), 4);
        Boards.dueHours(x, 3, 075557, 4);
        x.show(3, 1);
        x.pass(2);
        Check.due("hours of a lamp of both digits", x.lampOf(3, 1, 1), 6);
        Check.due("hours of a lamp of the first one", x.lampOf(3, 0, 1), 4);
        Check.due("hours of a lamp of the second one", x.lampOf(3, 7, 1), 2);
    }

    private static void passIsUndoable() {
        BulbShapes x = Boards.living(1, 1);
        Boards.dueUndoable(x, "pass(1)", () -> x.pass(1));
        Boards.dueUndoable(x, "pass(500) with two burnings", () -> x.pass(500));
    }

    private static void passHours() {
        BulbShapes x = new BulbShapes();
        Check.due("pass(1)", x.pass(1), 0);
        Check.due("hours that passed", x.count(0), 1);
        Check.due("pass(500)", x.pass(500), 0);
        Check.due("hours that passed", x.count(0), 501);
    }

    private static void passReturns() {
        BulbShapes x = Boards.living(1, 1);
        x.show(0, 7);
        Check.due("pass(99)", x.pass(99), 0);
        Check.due("pass(1)", x.pass(1), 15);
        Check.due("burnt lamps", x.count(1), 15);
        Check.due("lamps that burnt by their hours", x.count(5), 15);
        Check.due("pass(1) again: burnt lamps do not burn", x.pass(1), 0);
        BulbShapes y = Boards.living(1, 0);
        y.pass(100);
        y.lamp(3, 1, true);
        y.show(3, NONE);
        y.set(1, 1);
        Check.due("pass(1) with one of them burnt already", y.pass(1), 7);
    }

    private static void passThroughSeveralBurnings() {
        BulbShapes x = Boards.living(1, 1);
        x.set(0, 1);
        // 26227 burns behind 100 hours, what is left of 13111 behind 200, then nothing is lit
        Check.due("pass(199)", x.pass(199), 8);
        Check.due("pass(1)", x.pass(1), 4);
        Check.due("pass(500)", x.pass(500), 0);
        x.undo();
        x.undo();
        x.undo();
        Check.due("pass(200) at once", x.pass(200), 12);
        Check.due("lamps that burnt by their hours", x.count(5), 12);
    }

    private static void passOutOfRange() {
        BulbShapes x = new BulbShapes();
        for (int hours : Boards.beyond(1, 500)) {
            Check.illegalArgument("pass(" + hours + ")", x, () -> x.pass(hours));
        }
    }

    private static void passNoMoreThan99999() {
        BulbShapes x = new BulbShapes();
        Boards.pass(x, 99500);
        Check.illegalState("pass(500) behind 99500 hours", x, () -> x.pass(500));
        Check.due("pass(499) behind 99500 hours", x.pass(499), 0);
        Check.due("hours that passed", x.count(0), 99999);
        Check.illegalState("pass(1) behind 99999 hours", x, () -> x.pass(1));
        x.undo();
        Check.due("pass(498) behind undo()", x.pass(498), 0);
        Check.illegalState("pass(2) behind 99998 hours", x, () -> x.pass(2));
        Check.due("pass(1) behind 99998 hours", x.pass(1), 0);
    }

    private static void promise7() {
        Sentences.in("Promise 7");
        Sentences.holds("Changes a setting.", BoardBoundaries::setSets);
        Sentences.holds("Changes a setting.", BoardBoundaries::setBurnsNothingAtOnce);
        Sentences.holds("Undoable.", BoardBoundaries::setIsUndoable);
        Sentences.holds("`setting`: 0 or 1", BoardBoundaries::setSettings);
        Sentences.holds("`value`: the new value", BoardBoundaries::setValues);
        Sentences.holds("Returns the previous value.", BoardBoundaries::setReturns);
        Sentences.holds("Throws `IndexOutOfBoundsException` if there is no such setting",
                BoardBoundaries::setWithoutSetting);
        Sentences.holds("Throws `IllegalArgumentException` if value is out of range",
                BoardBoundaries::setOutOfRange);
    }

    private static void setSets() {
        BulbShapes x = new BulbShapes();
        x.set(0, 5);
        for (int f = 0; f < Boards.FIELDS; f++) {
            Check.due("field(" + f + ", 5) with setting 0 at 5", x.field(f, 5), 0b0001011111);
        }
        x.set(0, 1);
        for (int f = 0; f < Boards.FIELDS; f++) {
            Check.due("field(" + f + ", 5) with setting 0 at 1", x.field(f, 5), 0b1111111111);
        }
    }

    /** A lamp whose hours are at least 100 * setting 1 when the setting changes burns in the next hour. */
    private static void setBurnsNothingAtOnce() {
        BulbShapes x = Boards.living(1, 0);
        x.pass(100);
        x.set(1, 1);
        Check.due("burnt lamps behind set(1, 1)", x.count(1), 0);
        Check.due("field(3, 2) behind it", x.field(3, 2), 026227);
        Check.due("nextBurn() behind it", x.nextBurn(), 1);
        x.set(1, 2);
        Check.due("pass(1) with a longer life", x.pass(1), 0);
        x.set(1, 0);
        Check.due("pass(1) without a life", x.pass(1), 0);
        x.set(1, 1);
        Check.due("pass(1)", x.pass(1), 8);
        Check.due("hours of a lamp that burnt late", x.lampOf(3, 1, 1), 103);
    }

    private static void setIsUndoable() {
        BulbShapes x = new BulbShapes();
        Boards.dueUndoable(x, "set(0, 5)", () -> x.set(0, 5));
        Boards.dueUndoable(x, "set(1, 99)", () -> x.set(1, 99));
        Boards.dueUndoable(x, "set(0, 2) at 2", () -> x.set(0, 2));
    }

    private static void setSettings() {
        BulbShapes x = new BulbShapes();
        x.set(0, 3);
        Check.due("setting(0)", x.setting(0), 3);
        Check.due("setting(1)", x.setting(1), 0);
        x.set(1, 4);
        Check.due("setting(0)", x.setting(0), 3);
        Check.due("setting(1)", x.setting(1), 4);
    }

    private static void setValues() {
        BulbShapes x = new BulbShapes();
        for (int value = 1; value <= 5; value++) {
            x.set(0, value);
            Check.due("setting(0)", x.setting(0), value);
        }
        for (int value = 0; value <= 99; value++) {
            x.set(1, value);
            Check.due("setting(1)", x.setting(1), value);
        }
    }

    private static void setReturns() {
        BulbShapes x = new BulbShapes();
        Check.due("set(0, 1)", x.set(0, 1), 2);
        Check.due("set(0, 5)", x.set(0, 5), 1);
        Check.due("set(0, 5) again", x.set(0, 5), 5);
        Check.due("set(1, 99)", x.set(1, 99), 0);
        Check.due("set(1, 0)", x.set(1, 0), 99);
    }

    private static void setWithoutSetting() {
        BulbShapes x = new BulbShapes();
        for (int setting : Boards.beyond(0, 1)) {
            Check.outOfBounds("set(" + setting + ", 1)", x, () -> x.set(setting, 1));
        }
    }

    private static void setOutOfRange() {
        BulbShapes x = new BulbShapes();
        for (int value : Boards.beyond(1, 5)) {
            Check.illegalArgument("set(0, " + value + ")", x, () -> x.set(0, value));
        }
        for (int value : Boards.beyond(0, 99)) {
            Check.illegalArgument("set(1, " + value + ")", x, () -> x.set(1, value));
        }
    }
}
