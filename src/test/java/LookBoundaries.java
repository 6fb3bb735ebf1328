import java.util.ArrayList;
import java.util.Arrays;
import java.util.List;

/** Promises 13 to 18: looks, which change nothing. */
final class LookBoundaries {
    private static final int NONE = Boards.NONE;

    private LookBoundaries() {
    }

    static void run() {
        promise13();
        promise14();
        promise15();
        promise16();
        promise17();
        promise18();
    }

    private static void promise13() {
        Sentences.in("Promise 13");
        Sentences.holds("Returns a property of a field.", LookBoundaries::fieldChangesNothing);
        Sentences.holds("`field`: 0 to 3", LookBoundaries::fieldFields);
        Sentences.holds("`what`: 0: its digit, NONE without one;", LookBoundaries::itsDigit);
        Sentences.holds("1: the shape in which it is shown, NONE if the field is dark;", LookBoundaries::itsShape);
        Sentences.holds("2: the lamps that are lit, as a mask;", LookBoundaries::itsLitLamps);
        Sentences.holds("3: burnt lamps;", LookBoundaries::itsBurntLamps);
        Sentences.holds("4: missing lamps of that shape, 0 if the field is dark;", LookBoundaries::itsMissingLamps);
        Sentences.holds("5: digits that can be shown there, as a mask with the bit d for the digit d;",
                LookBoundaries::digitsThatCanBeShown);
        Sentences.holds("6: the least number of lamps in which the shown lamps of two digits differ",
                LookBoundaries::leastDifference);
        Sentences.holds("NONE if fewer than two have shapes;", LookBoundaries::fewerThanTwo);
        Sentences.holds("7: the first digit that cannot be shown", LookBoundaries::firstThatCannotBeShown);
        Sentences.holds("NONE if all can", LookBoundaries::allCanBeShown);
        Sentences.holds("Returns the property.", LookBoundaries::eachProperty);
        Sentences.holds("Throws `IndexOutOfBoundsException` if there is no such field",
                LookBoundaries::fieldWithoutField);
        Sentences.holds("Throws `IllegalArgumentException` if what is not 0 to 7", LookBoundaries::fieldOutOfRange);
    }

    private static void fieldChangesNothing() {
        BulbShapes x = Boards.without(3, 6);
        x.show(3, 1);
        for (int what = 0; what <= 7; what++) {
            int asked = what;
            Boards.dueNoChange(x, "field(3, " + what + ")", () -> x.field(3, asked));
        }
    }

    private static void fieldFields() {
        BulbShapes x = new BulbShapes();
        x.number(4321);
        Boards.dueDigits(x, 4, 3, 2, 1);
    }

    private static void itsDigit() {
        BulbShapes x = new BulbShapes();
        Check.due("field(0, 0) at first", x.field(0, 0), NONE);
        x.show(0, 0);
        Check.due("field(0, 0)", x.field(0, 0), 0);
        x.show(0, 9);
        Check.due("field(0, 0)", x.field(0, 0), 9);
        x.set(0, 5);
        Check.due("field(0, 0) when it cannot be shown", x.field(0, 0), 9);
        x.show(0, NONE);
        Check.due("field(0, 0) behind show(0, NONE)", x.field(0, 0), NONE);
    }

    private static void itsShape() {
        BulbShapes x = new BulbShapes();
        Check.due("field(0, 1) without a digit", x.field(0, 1), NONE);
        x.show(0, 8);
        Check.due("field(0, 1)", x.field(0, 1), 1);
        x.set(0, 1);
        Check.due("field(0, 1) with setting 0 at 1", x.field(0, 1), 0);
        x.set(0, 3);
        Check.due("field(0, 1) with setting 0 at 3", x.field(0, 1), 2);
        x.set(0, 4);
        Check.due("field(0, 1) with setting 0 at 4", x.field(0, 1), NONE);
    }

    private static void itsLitLamps() {
        BulbShapes x = new BulbShapes();
        Check.due("field(3, 2) without a digit", x.field(3, 2), 0);
        x.show(3, 8);
        Check.due("field(3, 2)", x.field(3, 2), 025252);
        x.lamp(3, 1, true);
        Check.due("field(3, 2) without the lamp 1", x.field(3, 2), 005252);
        x.set(0, 5);
        Check.due("field(3, 2) when it cannot be shown", x.field(3, 2), 0);
        x.show(3, 0);
        Boards.burnAll(x, 3);
        Check.due("field(3, 2) without lamps", x.field(3, 2), 0);
    }

    private static void itsBurntLamps() {
        BulbShapes x = new BulbShapes();
        Check.due("field(1, 3)", x.field(1, 3), 0);
        for (int lamp = 0; lamp < Boards.LAMPS; lamp++) {
            x.lamp(1, lamp, true);
            Check.due("field(1, 3)", x.field(1, 3), lamp + 1);
        }
        Check.due("field(2, 3)", x.field(2, 3), 0);
    }

    private static void itsMissingLamps() {
        BulbShapes x = Boards.without(3, 1);
        Check.due("field(3, 4) without a digit", x.field(3, 4), 0);
        x.show(3, 0);
        Check.due("field(3, 4)", x.field(3, 4), 1);
        x.show(3, 1);
        Check.due("field(3, 4) of a whole shape", x.field(3, 4), 0);
        x.show(3, 8);
        Boards.burn(x, 3, 6);
        Check.due("field(3, 1) in the dark", x.field(3, 1), NONE);
        Check.due("field(3, 4) in the dark", x.field(3, 4), 0);
        x.show(3, 0);
        Boards.burnAll(x, 3);
        Check.due("field(3, 4) without lamps", x.field(3, 4), 8);
    }

    private static void digitsThatCanBeShown() {
        BulbShapes x = Boards.without(4);
        Check.due("field(3, 5) with setting 0 at 4", x.field(3, 5), 0b0011111111);
        x.set(0, 5);
        Check.due("field(3, 5) with setting 0 at 5", x.field(3, 5), 0b0001011111);
        x.set(0, 1);
        Check.due("field(3, 5) with setting 0 at 1", x.field(3, 5), 0b1111111111);
        Boards.burnAll(x, 3);
        Check.due("field(3, 5) without lamps", x.field(3, 5), 0b0000000001);
        Check.due("field(2, 5)", x.field(2, 5), 0b1111111111);
    }

    private static void leastDifference() {
        for (int strictness = 1; strictness <= 5; strictness++) {
            BulbShapes x = Boards.without(strictness);
            Check.due("field(3, 6) with setting 0 at " + strictness, x.field(3, 6), strictness);
        }
        // without these only 0 and 1 have shapes, which are the two that differ
        Check.due("field(3, 6) of two digits", Boards.without(5, 3, 6, 9, 10, 13).field(3, 6), 9);
        Check.due("field(3, 6) without the lamp 8", Boards.without(3, 8).field(3, 6), 4);
    }

    private static void fewerThanTwo() {
        BulbShapes x = Boards.without(5, 2, 4, 6, 7, 8, 11);
        Check.due("field(3, 6) of three digits", x.field(3, 6), 5);
        x.lamp(3, 14, true);
        Check.due("field(3, 5)", x.field(3, 5), 1);
        Check.due("field(3, 6) of one digit", x.field(3, 6), NONE);
        Check.due("field(2, 6)", x.field(2, 6), 5);
        Boards.burnAll(x, 3);
        Check.due("field(3, 6) without lamps", x.field(3, 6), NONE);
    }

    private static void firstThatCannotBeShown() {
        int[][] boards = {
            {1, 5, 4, 6, 9, 10, 11, 14}, {2, 5, 7, 8, 11}, {3, 5, 9}, {4, 4, 12, 13}, {5, 5}, {6, 4, 14},
            {7, 4, 11, 13}, {8, 4}, {9, 3, 9, 13},
        };
        for (int[] board : boards) {
            int[] burnt = Arrays.copyOfRange(board, 2, board.length);
            BulbShapes x = Boards.without(board[1], burnt);
            Check.due("field(3, 7)", x.field(3, 7), board[0]);
            Check.due("its shape", x.table(3, board[0], 0), NONE);
        }
    }

    private static void allCanBeShown() {
        BulbShapes x = Boards.without(3);
        Check.due("field(3, 7) with setting 0 at 3", x.field(3, 7), NONE);
        x.lamp(3, 6, true);
        Check.due("field(3, 7) without the lamp 6", x.field(3, 7), 8);
        Check.due("field(2, 7)", x.field(2, 7), NONE);
        x.lamp(3, 6, false);
        Check.due("field(3, 7) with the lamp 6", x.field(3, 7), NONE);
    }

    private static void eachProperty() {
        BulbShapes x = Boards.without(4, 1, 4);
        x.show(3, 0);
        int[] want = {0, 0, 055557, 2, 1, 0b0011111111, 4, 8};
        for (int what = 0; what < want.length; what++) {
            Check.due("field(3, " + what + ")", x.field(3, what), want[what]);
        }
    }

    private static void fieldWithoutField() {
        BulbShapes x = new BulbShapes();
        for (int field : Boards.beyond(0, 3)) {
            for (int what = 0; what <= 7; what++) {
                int asked = what;
                Check.outOfBounds("field(" + field + ", " + what + ")", x, () -> x.field(field, asked));
            }
        }
    }

    private static void fieldOutOfRange() {
        BulbShapes x = new BulbShapes();
        for (int what : Boards.beyond(0, 7)) {
            Check.illegalArgument("field(0, " + what + ")", x, () -> x.field(0, what));
            Check.illegalArgument("field(3, " + what + ")", x, () -> x.field(3, what));
        }
    }

    private static void promise14() {
        Sentences.in("Promise 14");
        Sentences.holds("Returns a property of a lamp.", LookBoundaries::lampOfChangesNothing);
        Sentences.holds("`field`: 0 to 3", LookBoundaries::lampOfFields);
        Sentences.holds("`lamp`: 0 to 14", LookBoundaries::lampOfLamps);
        Sentences.holds("`what`: 0: 1 if it is burnt, otherwise 0;", LookBoundaries::itIsBurnt);
        Sentences.holds("1: its hours;", LookBoundaries::lampHours);
        Sentences.holds("2: 1 if it is lit, otherwise 0;", LookBoundaries::itIsLit);
        Sentences.holds("3: digits whose shapes have it (burnt or not), in the table of the field",
                LookBoundaries::digitsWithIt);
        Sentences.holds("(burnt or not)", LookBoundaries::digitsWithABurntLamp);
        Sentences.holds("Returns the property.", LookBoundaries::eachPropertyOfALamp);
        Sentences.holds("Throws `IndexOutOfBoundsException` if there is no such field or lamp",
                LookBoundaries::lampOfWithoutLamp);
        Sentences.holds("Throws `IllegalArgumentException` if what is not 0 to 3", LookBoundaries::lampOfOutOfRange);
    }

    private static void lampOfChangesNothing() {
        BulbShapes x = Boards.living(1, 1);
        x.pass(40);
        for (int what = 0; what <= 3; what++) {
            int asked = what;
            Boards.dueNoChange(x, "lampOf(3, 1, " + what + ")", () -> x.lampOf(3, 1, asked));
        }
    }

    private static void lampOfFields() {
        BulbShapes x = new BulbShapes();
        x.number(1001);
        x.pass(6);
        int[] hours = {0, 6, 6, 0};
        for (int f = 0; f < Boards.FIELDS; f++) {
            Check.due("lampOf(" + f + ", 0, 1)", x.lampOf(f, 0, 1), hours[f]);
        }
    }

    private static void lampOfLamps() {
        BulbShapes x = new BulbShapes();
        x.lamp(2, 0, true);
        x.lamp(1, 14, true);
        Check.due("lampOf(2, 0, 0)", x.lampOf(2, 0, 0), 1);
        Check.due("lampOf(1, 14, 0)", x.lampOf(1, 14, 0), 1);
        Check.due("lampOf(2, 14, 0)", x.lampOf(2, 14, 0), 0);
        Check.due("lampOf(1, 0, 0)", x.lampOf(1, 0, 0), 0);
    }

    private static void itIsBurnt() {
        BulbShapes x = Boards.living(1, 1);
        Check.due("lampOf(3, 1, 0)", x.lampOf(3, 1, 0), 0);
        x.pass(99);
        Check.due("lampOf(3, 1, 0) behind 99 hours", x.lampOf(3, 1, 0), 0);
        x.pass(1);
        Check.due("lampOf(3, 1, 0) behind 100 hours", x.lampOf(3, 1, 0), 1);
        Check.due("lampOf(3, 2, 0)", x.lampOf(3, 2, 0), 0);
        x.lamp(3, 1, false);
        Check.due("lampOf(3, 1, 0) mended", x.lampOf(3, 1, 0), 0);
    }

    private static void lampHours() {
        BulbShapes x = Boards.living(1, 0);
        Check.due("lampOf(3, 1, 1)", x.lampOf(3, 1, 1), 0);
        x.pass(1);
        Check.due("lampOf(3, 1, 1)", x.lampOf(3, 1, 1), 1);
        Check.due("lampOf(3, 0, 1)", x.lampOf(3, 0, 1), 0);
        Boards.pass(x, 99998);
        Check.due("lampOf(3, 1, 1) behind all hours", x.lampOf(3, 1, 1), 99999);
    }

    private static void itIsLit() {
        BulbShapes x = Boards.living(1, 0);
        Check.due("lampOf(3, 1, 2)", x.lampOf(3, 1, 2), 1);
        Check.due("lampOf(3, 0, 2) of a lamp that the 1 does not have", x.lampOf(3, 0, 2), 0);
        Check.due("lampOf(2, 1, 2) in the dark", x.lampOf(2, 1, 2), 0);
        x.lamp(3, 14, true);
        Check.due("shape of the 1", x.field(3, 1), 1);
        Check.due("lampOf(3, 14, 2) of a burnt lamp", x.lampOf(3, 14, 2), 0);
        x.lamp(3, 1, true);
        Check.due("shape of the 1", x.field(3, 1), 1);
        Check.due("lampOf(3, 1, 2) of a missing lamp", x.lampOf(3, 1, 2), 0);
        Check.due("lampOf(3, 4, 2)", x.lampOf(3, 4, 2), 1);
        x.mend(3);
        x.show(3, 8);
        x.set(0, 4);
        Check.due("lampOf(3, 1, 2) of a digit that cannot be shown", x.lampOf(3, 1, 2), 0);
    }

    private static void digitsWithIt() {
        int[][] want = {
            {9, 9, 9, 7, 1, 7, 8, 8, 9, 4, 1, 8, 8, 8, 10},
            {7, 9, 8, 7, 1, 7, 7, 8, 8, 4, 1, 8, 6, 8, 8},
            {8, 9, 7, 7, 1, 7, 6, 8, 6, 4, 1, 8, 6, 8, 7},
            {6, 7, 4, 5, 1, 5, 4, 6, 3, 3, 1, 6, 4, 6, 5},
            {4, 5, 3, 4, 1, 4, 3, 5, 3, 3, 1, 4, 3, 5, 4},
        };
        for (int strictness = 1; strictness <= 5; strictness++) {
            BulbShapes x = Boards.without(strictness);
            for (int lamp = 0; lamp < Boards.LAMPS; lamp++) {
                Check.due("lampOf(3, " + lamp + ", 3)", x.lampOf(3, lamp, 3), want[strictness - 1][lamp]);
            }
        }
    }

    private static void digitsWithABurntLamp() {
        BulbShapes x = Boards.without(2, 1);
        int[] without1 = {7, 8, 9, 6, 1, 8, 7, 7, 9, 4, 0, 9, 5, 7, 8};
        for (int lamp = 0; lamp < Boards.LAMPS; lamp++) {
            Check.due("lampOf(3, " + lamp + ", 3)", x.lampOf(3, lamp, 3), without1[lamp]);
        }
        Boards.burnAll(x, 3);
        for (int lamp = 0; lamp < Boards.LAMPS; lamp++) {
            int want = (025552 & Boards.bit(lamp)) == 0 ? 0 : 1;
            Check.due("lampOf(3, " + lamp + ", 3) without lamps", x.lampOf(3, lamp, 3), want);
        }
    }

    private static void eachPropertyOfALamp() {
        BulbShapes x = Boards.living(1, 0);
        x.pass(12);
        int[] want = {0, 12, 1, 9};
        for (int what = 0; what < want.length; what++) {
            Check.due("lampOf(3, 1, " + what + ")", x.lampOf(3, 1, what), want[what]);
        }
        x.lamp(3, 1, true);
        int[] burnt = {1, 12, 0, 8};
        for (int what = 0; what < burnt.length; what++) {
            Check.due("lampOf(3, 1, " + what + ")", x.lampOf(3, 1, what), burnt[what]);
        }
    }

    private static void lampOfWithoutLamp() {
        BulbShapes x = new BulbShapes();
        for (int what = 0; what <= 3; what++) {
            int asked = what;
            for (int field : Boards.beyond(0, 3)) {
                Check.outOfBounds("lampOf(" + field + ", 0, " + what + ")", x, () -> x.lampOf(field, 0, asked));
            }
            for (int lamp : Boards.beyond(0, 14)) {
                Check.outOfBounds("lampOf(0, " + lamp + ", " + what + ")", x, () -> x.lampOf(0, lamp, asked));
                Check.outOfBounds("lampOf(3, " + lamp + ", " + what + ")", x, () -> x.lampOf(3, lamp, asked));
            }
        }
    }

    private static void lampOfOutOfRange() {
        BulbShapes x = new BulbShapes();
        for (int what : Boards.beyond(0, 3)) {
            Check.illegalArgument("lampOf(0, 0, " + what + ")", x, () -> x.lampOf(0, 0, what));
            Check.illegalArgument("lampOf(3, 14, " + what + ")", x, () -> x.lampOf(3, 14, what));
        }
    }

    private static void promise15() {
        Sentences.in("Promise 15");
        Sentences.holds("Returns something of a digit in the table of a field.", LookBoundaries::tableChangesNothing);
        Sentences.holds("`field`: 0 to 3", LookBoundaries::tableFields);
        Sentences.holds("`digit`: 0 to 9", LookBoundaries::tableDigits);
        Sentences.holds("`what`: 0: its shape;", LookBoundaries::shapeInTheTable);
        Sentences.holds("1: the lamps that it shows, as a mask;", LookBoundaries::lampsInTheTable);
        Sentences.holds("2: its missing lamps;", LookBoundaries::missingInTheTable);
        Sentences.holds("NONE for each if it has none", LookBoundaries::noneInTheTable);
        Sentences.holds("Returns the number.", LookBoundaries::tableReturns);
        Sentences.holds("Throws `IndexOutOfBoundsException` if there is no such field",
                LookBoundaries::tableWithoutField);
        Sentences.holds("Throws `IllegalArgumentException` if digit or what is out of range",
                LookBoundaries::tableOutOfRange);
    }

    private static void tableChangesNothing() {
        BulbShapes x = Boards.without(4, 1);
        Boards.dueNoChange(x, "table(3, 0, 0)", () -> x.table(3, 0, 0));
        Boards.dueNoChange(x, "table(3, 0, 1)", () -> x.table(3, 0, 1));
        Boards.dueNoChange(x, "table(3, 9, 2)", () -> x.table(3, 9, 2));
    }

    private static void tableFields() {
        BulbShapes x = new BulbShapes();
        x.lamp(0, 14, true);
        x.lamp(3, 1, true);
        Boards.dueEntry(x, 0, 0, 1, 025552, 0);
        Boards.dueEntry(x, 1, 0, 0, 075557, 0);
        Boards.dueEntry(x, 2, 0, 0, 075557, 0);
        Boards.dueEntry(x, 3, 0, 0, 055557, 1);
    }

    private static void tableDigits() {
        BulbShapes x = new BulbShapes();
        Boards.dueEntry(x, 0, 0, 0, 075557, 0);
        Boards.dueEntry(x, 0, 9, 1, 075712, 0);
    }

    private static void shapeInTheTable() {
        Boards.dueShapes("with setting 0 at 3", Boards.without(3), 3, 0, 0, 0, 1, 0, 0, 2, 0, 2, 1);
    }

    private static void lampsInTheTable() {
        int[] shown = {075557, 026227, 071747, 061216, 055711, 074717, 024652, 071111, 075257, 075712};
        BulbShapes x = Boards.without(3);
        for (int digit = 0; digit < Boards.DIGITS; digit++) {
            Check.due("table(3, " + digit + ", 1)", x.table(3, digit, 1), shown[digit]);
        }
        Boards.burnAll(x, 3);
        Check.due("table(3, 0, 1) without lamps", x.table(3, 0, 1), 0);
    }

    private static void missingInTheTable() {
        BulbShapes x = Boards.without(2);
        Check.due("table(3, 0, 2)", x.table(3, 0, 2), 0);
        Boards.burn(x, 3, 1);
        Check.due("table(3, 0, 2) without the lamp 1", x.table(3, 0, 2), 1);
        Boards.burnAll(x, 3);
        Check.due("table(3, 0, 2) without lamps", x.table(3, 0, 2), 8);
    }

    private static void noneInTheTable() {
        BulbShapes x = Boards.without(4);
        Boards.dueEntry(x, 3, 7, 0, 071111, 0);
        Boards.dueEntry(x, 3, 8, NONE, NONE, NONE);
        Boards.dueEntry(x, 3, 9, NONE, NONE, NONE);
        Boards.burnAll(x, 3);
        Boards.dueEntry(x, 3, 1, NONE, NONE, NONE);
        Boards.dueEntry(x, 3, 0, 1, 0, 8);
    }

    private static void tableReturns() {
        Boards.dueEntry(Boards.without(5, 8, 11, 14), 3, 2, 2, 071246, 1);
    }

    private static void tableWithoutField() {
        BulbShapes x = new BulbShapes();
        for (int field : Boards.beyond(0, 3)) {
            for (int what = 0; what <= 2; what++) {
                int asked = what;
                Check.outOfBounds("table(" + field + ", 0, " + what + ")", x, () -> x.table(field, 0, asked));
            }
        }
    }

    private static void tableOutOfRange() {
        BulbShapes x = new BulbShapes();
        for (int digit : Boards.beyond(0, 9)) {
            Check.illegalArgument("table(0, " + digit + ", 0)", x, () -> x.table(0, digit, 0));
            Check.illegalArgument("table(3, " + digit + ", 2)", x, () -> x.table(3, digit, 2));
        }
        for (int what : Boards.beyond(0, 2)) {
            Check.illegalArgument("table(0, 0, " + what + ")", x, () -> x.table(0, 0, what));
            Check.illegalArgument("table(3, 9, " + what + ")", x, () -> x.table(3, 9, what));
        }
    }

    private static void promise16() {
        Sentences.in("Promise 16");
        Sentences.holds("Reads a set of lamps.", LookBoundaries::readChangesNothing);
        Sentences.holds("`field`: 0 to 3", LookBoundaries::readFields);
        Sentences.holds("`lamps`: the mask, 0 to 32767", LookBoundaries::readMasks);
        Sentences.holds("Returns the digit as which it is read", LookBoundaries::readReturns);
        Sentences.holds("NONE as none.", LookBoundaries::readAsNone);
        Sentences.holds("Throws `IndexOutOfBoundsException` if there is no such field",
                LookBoundaries::readWithoutField);
        Sentences.holds("Throws `IllegalArgumentException` if lamps is out of range",
                LookBoundaries::readOutOfRange);
    }

    private static void readChangesNothing() {
        BulbShapes x = Boards.without(4, 1);
        Boards.dueNoChange(x, "read(3, 71111)", () -> x.read(3, 071111));
        Boards.dueNoChange(x, "read(3, 0)", () -> x.read(3, 0));
    }

    private static void readFields() {
        BulbShapes x = new BulbShapes();
        Boards.burnAll(x, 0);
        Boards.burnAll(x, 2);
        int[] want = {0, 7, 0, 7};
        for (int f = 0; f < Boards.FIELDS; f++) {
            Check.due("read(" + f + ", 71111)", x.read(f, 071111), want[f]);
        }
    }

    private static void readMasks() {
        BulbShapes x = new BulbShapes();
        Check.due("read(0, 0)", x.read(0, 0), NONE);
        Check.due("read(0, 1)", x.read(0, 1), 7);
        Check.due("read(0, 16384)", x.read(0, 16384), 7);
        Check.due("read(0, 32767)", x.read(0, 32767), 0);
    }

    private static void readReturns() {
        int[] shown = {075557, 026227, 071747, 061216, 055711, 074717, 024652, 071111, 075257, 075712};
        BulbShapes x = Boards.without(3);
        for (int digit = 0; digit < Boards.DIGITS; digit++) {
            Check.due("read(3, what " + digit + " shows)", x.read(3, shown[digit]), digit);
            for (int lamp = 0; lamp < Boards.LAMPS; lamp++) {
                int mask = shown[digit] ^ Boards.bit(lamp);
                Check.due("read(3, " + mask + "), in one lamp from " + digit, x.read(3, mask), digit);
            }
        }
    }

    private static void readAsNone() {
        BulbShapes x = new BulbShapes();
        int[] shown = {075557, 026227, 071747, 071717, 055711, 074717, 034757, 071111, 025252, 075712};
        for (int mask = 0; mask <= 32767; mask += 97) {
            Check.due("read(3, " + mask + ")", x.read(3, mask), nearest(shown, mask));
        }
    }

    private static int nearest(int[] shown, int mask) {
        for (int difference = 0; difference <= Boards.LAMPS; difference++) {
            List<Integer> digits = new ArrayList<>();
            for (int digit = 0; digit < shown.length; digit++) {
                if (Integer.bitCount(shown[digit] ^ mask) == difference) {
                    digits.add(digit);
                }
            }
            if (!digits.isEmpty()) {
                return digits.size() == 1 ? digits.get(0) : NONE;
            }
        }
        return NONE;
    }

    private static void readWithoutField() {
        BulbShapes x = new BulbShapes();
        for (int field : Boards.beyond(0, 3)) {
            Check.outOfBounds("read(" + field + ", 0)", x, () -> x.read(field, 0));
        }
    }

    private static void readOutOfRange() {
        BulbShapes x = new BulbShapes();
        for (int lamps : Boards.beyond(0, 32767)) {
            Check.illegalArgument("read(0, " + lamps + ")", x, () -> x.read(0, lamps));
            Check.illegalArgument("read(3, " + lamps + ")", x, () -> x.read(3, lamps));
        }
    }

    private static void promise17() {
        Sentences.in("Promise 17");
        Sentences.holds("Returns a number.", LookBoundaries::countChangesNothing);
        Sentences.holds("`what`: 0: hours that passed;", LookBoundaries::countHours);
        Sentences.holds("1: burnt lamps;", LookBoundaries::countBurntLamps);
        Sentences.holds("2: fields that have a digit;", LookBoundaries::countFieldsWithADigit);
        Sentences.holds("3: of these dark ones;", LookBoundaries::countDarkOnes);
        Sentences.holds("4: lamps that are lit;", LookBoundaries::countLitLamps);
        Sentences.holds("5: lamps that burnt so far by their hours;", LookBoundaries::countBurntByHours);
        Sentences.holds("6: the number that is shown: the digits of the fields from the first one that has one on",
                LookBoundaries::countNumber);
        Sentences.holds("NONE if none has", LookBoundaries::countNoNumber);
        Sentences.holds("or one behind it has none", LookBoundaries::countNumberWithAGap);
        Sentences.holds("or any that has one is dark;", LookBoundaries::countNumberInTheDark);
        Sentences.holds("7: saved states", LookBoundaries::countSavedStates);
        Sentences.holds("Returns the number.", LookBoundaries::countReturns);
        Sentences.holds("Throws `IllegalArgumentException` if what is not 0 to 7", LookBoundaries::countOutOfRange);
    }

    private static void countChangesNothing() {
        BulbShapes x = Boards.living(1, 1);
        for (int what = 0; what <= 7; what++) {
            int asked = what;
            Boards.dueNoChange(x, "count(" + what + ")", () -> x.count(asked));
        }
    }

    private static void countHours() {
        BulbShapes x = new BulbShapes();
        Check.due("count(0)", x.count(0), 0);
        x.pass(1);
        Check.due("count(0)", x.count(0), 1);
        Boards.pass(x, 99998);
        Check.due("count(0)", x.count(0), 99999);
    }

    private static void countBurntLamps() {
        BulbShapes x = new BulbShapes();
        Check.due("count(1)", x.count(1), 0);
        for (int f = 0; f < Boards.FIELDS; f++) {
            Boards.burnAll(x, f);
            Check.due("count(1)", x.count(1), 15 * (f + 1));
        }
        x.lamp(0, 0, true);
        Check.due("count(1)", x.count(1), 60);
        x.lamp(3, 14, false);
        Check.due("count(1)", x.count(1), 59);
    }

    private static void countFieldsWithADigit() {
        BulbShapes x = new BulbShapes();
        Check.due("count(2)", x.count(2), 0);
        for (int f = 0; f < Boards.FIELDS; f++) {
            x.show(f, 9 * (f % 2));
            Check.due("count(2)", x.count(2), f + 1);
        }
        x.set(0, 5);
        Check.due("count(2) in the dark", x.count(2), 4);
        x.show(0, NONE);
        Check.due("count(2)", x.count(2), 3);
    }

    private static void countDarkOnes() {
        BulbShapes x = new BulbShapes();
        Check.due("count(3) without digits", x.count(3), 0);
        x.number(8081);
        Check.due("count(3)", x.count(3), 0);
        x.set(0, 4);
        Check.due("count(3) with setting 0 at 4", x.count(3), 2);
        x.number(0);
        Check.due("count(3) of fields without a digit", x.count(3), 0);
        Boards.burnAll(x, 3);
        Check.due("count(3) of a shape without lamps", x.count(3), 0);
    }

    private static void countLitLamps() {
        BulbShapes x = new BulbShapes();
        Check.due("count(4)", x.count(4), 0);
        x.number(1807);
        Check.due("count(4)", x.count(4), 8 + 7 + 12 + 7);
        x.lamp(2, 1, true);
        Check.due("count(4) without a lamp of the 0", x.count(4), 8 + 7 + 11 + 7);
        x.set(0, 5);
        Check.due("count(4) with 8 and 7 in the dark", x.count(4), 8 + 11);
    }

    private static void countBurntByHours() {
        BulbShapes x = Boards.living(1, 1);
        x.lamp(3, 0, true);
        Check.due("count(5) of a lamp that is burnt by lamp()", x.count(5), 0);
        x.pass(99);
        Check.due("count(5)", x.count(5), 0);
        x.pass(1);
        Check.due("count(5)", x.count(5), 8);
        x.mend(3);
        Check.due("count(5) when they are mended", x.count(5), 8);
        x.pass(100);
        Check.due("count(5) when they burn again", x.count(5), 16);
        x.undo();
        Check.due("count(5) behind undo()", x.count(5), 8);
    }

    private static void countNumber() {
        BulbShapes x = new BulbShapes();
        for (int number : new int[] {0, 9, 10, 90, 100, 999, 1000, 9999}) {
            x.number(number);
            Check.due("count(6)", x.count(6), number);
        }
        x.number(1234);
        x.show(0, 0);
        Check.due("count(6) of 0234", x.count(6), 234);
        x.show(0, NONE);
        Check.due("count(6) of 234 behind a dark field", x.count(6), 234);
        Boards.burnAll(x, 3);
        x.show(3, 0);
        Check.due("count(6) with a shape without lamps", x.count(6), 230);
    }

    private static void countNoNumber() {
        BulbShapes x = new BulbShapes();
        Check.due("count(6)", x.count(6), NONE);
        x.number(5);
        x.show(3, NONE);
        Check.due("count(6)", x.count(6), NONE);
    }

    private static void countNumberWithAGap() {
        for (int gap = 1; gap < Boards.FIELDS; gap++) {
            BulbShapes x = new BulbShapes();
            x.number(1234);
            x.show(gap, NONE);
            Check.due("count(6) without a digit in field " + gap, x.count(6), NONE);
        }
        BulbShapes x = new BulbShapes();
        x.show(0, 0);
        Check.due("count(6) of a 0 in field 0 alone", x.count(6), NONE);
    }

    private static void countNumberInTheDark() {
        for (int field = 0; field < Boards.FIELDS; field++) {
            BulbShapes x = new BulbShapes();
            x.number(1234);
            x.show(field, 8);
            x.set(0, 4);
            Check.due("count(6) with field " + field + " dark", x.count(6), NONE);
            x.set(0, 3);
            Check.due("count(6) with field " + field + " shown", x.count(6) == NONE, false);
        }
        BulbShapes x = new BulbShapes();
        x.number(8);
        x.set(0, 4);
        Check.due("count(6) of one dark digit", x.count(6), NONE);
    }

    private static void countSavedStates() {
        BulbShapes x = new BulbShapes();
        Check.due("count(7)", x.count(7), 0);
        for (int saved = 1; saved <= 9; saved++) {
            x.number(saved);
            Check.due("count(7)", x.count(7), Math.min(saved, 6));
        }
        x.undo();
        Check.due("count(7) behind undo()", x.count(7), 5);
    }

    private static void countReturns() {
        BulbShapes x = Boards.without(2, 0);
        x.number(11);
        x.set(1, 1);
        x.pass(100);
        int[] want = {100, 17, 2, 0, 4 + 4, 16, 11, 5};
        for (int what = 0; what < want.length; what++) {
            Check.due("count(" + what + ")", x.count(what), want[what]);
        }
    }

    private static void countOutOfRange() {
        BulbShapes x = new BulbShapes();
        for (int what : Boards.beyond(0, 7)) {
            Check.illegalArgument("count(" + what + ")", x, () -> x.count(what));
        }
    }

    private static void promise18() {
        Sentences.in("Promise 18");
        Sentences.holds("Returns a setting.", LookBoundaries::settingChangesNothing);
        Sentences.holds("`setting`: 0 or 1", LookBoundaries::settings);
        Sentences.holds("Returns its value.", LookBoundaries::settingReturns);
        Sentences.holds("Throws `IndexOutOfBoundsException` if there is no such setting",
                LookBoundaries::settingWithoutSetting);
    }

    private static void settingChangesNothing() {
        BulbShapes x = Boards.living(1, 7);
        Boards.dueNoChange(x, "setting(0)", () -> x.setting(0));
        Boards.dueNoChange(x, "setting(1)", () -> x.setting(1));
    }

    private static void settings() {
        BulbShapes x = new BulbShapes();
        Check.due("setting(0) at first", x.setting(0), 2);
        Check.due("setting(1) at first", x.setting(1), 0);
    }

    private static void settingReturns() {
        BulbShapes x = new BulbShapes();
        x.set(0, 5);
        x.set(1, 99);
        Check.due("setting(0)", x.setting(0), 5);
        Check.due("setting(1)", x.setting(1), 99);
        x.undo();
        Check.due("setting(1) behind undo()", x.setting(1), 0);
        Check.due("setting(0) behind undo()", x.setting(0), 5);
    }

    private static void settingWithoutSetting() {
        BulbShapes x = new BulbShapes();
        for (int setting : Boards.beyond(0, 1)) {
            Check.outOfBounds("setting(" + setting + ")", x, () -> x.setting(setting));
        }
    }
}
