/** Promises 13 to 18: looks, which change nothing. */
public final class LooksTest {
    private static final int NONE = BulbShapes.NONE;
    private static final int FIELDS = 4;
    private static final int LAMPS = 15;
    private static final int DIGITS = 10;
    private static final int[] WRONG_FIELDS = {-1, 4, Integer.MIN_VALUE, Integer.MAX_VALUE};
    private static final int[] WRONG_LAMPS = {-1, 15, Integer.MIN_VALUE, Integer.MAX_VALUE};
    private static final int[] WRONG_DIGITS = {-1, 10, Integer.MIN_VALUE, Integer.MAX_VALUE};

    public static void main(String[] args) {
        fieldTellsItsProperties();
        fieldTellsOfAFieldWithoutLamps();
        fieldThrows();
        lampOfTellsItsProperties();
        lampOfThrows();
        tableOfANewBoard();
        tableTakesTheFewestMissingLamps();
        tableKnowsTheShapes();
        tableWithoutAShape();
        tableThrows();
        readTakesTheNearestDigit();
        readThrows();
        countTellsNumbers();
        countTellsTheNumberThatIsShown();
        countThrows();
        settingTellsItsValue();
        Check.end();
    }

    private static void fieldTellsItsProperties() {
        BulbShapes x = new BulbShapes();
        x.show(1, 8);
        x.lamp(1, 3, true);
        x.lamp(1, 7, true);
        x.lamp(1, 0, true);
        dueField(x, 1, 8, 1, 021052, 3, 2);
        Check.due("field(1, 5)", x.field(1, 5), 1023);
        Check.due("field(1, 7)", x.field(1, 7), NONE);
        dueField(x, 0, NONE, NONE, 0, 0, 0);
        x.mend(1);
        Check.due("field(1, 6) of whole lamps", x.field(1, 6), 2);
        x.set(0, 3);
        Check.due("field(1, 6) with setting 0 at 3", x.field(1, 6), 3);
        x.set(0, 5);
        Check.due("field(1, 5) with setting 0 at 5", x.field(1, 5), 95);
        Check.due("field(1, 7) with setting 0 at 5", x.field(1, 7), 5);
        dueField(x, 1, 8, NONE, 0, 0, 0);
        Check.due("saved states: looks are not undoable", x.count(7), 6);
    }

    private static void dueField(BulbShapes x, int field, int digit, int shape, int lit, int burnt, int missing) {
        int[] want = {digit, shape, lit, burnt, missing};
        for (int what = 0; what < want.length; what++) {
            Check.due("field(" + field + ", " + what + ")", x.field(field, what), want[what]);
        }
    }

    private static void fieldTellsOfAFieldWithoutLamps() {
        BulbShapes x = new BulbShapes();
        x.show(2, 0);
        for (int lamp = 0; lamp < LAMPS; lamp++) {
            x.lamp(2, lamp, true);
        }
        int shape = x.table(2, 0, 0);
        dueField(x, 2, 0, shape, 0, 15, x.table(2, 0, 2));
        Check.due("the shape of the 0 with the fewest lamps", shape, 1);
        Check.due("field(2, 5)", x.field(2, 5), 1);
        Check.due("field(2, 6) with one digit", x.field(2, 6), NONE);
        Check.due("field(2, 7)", x.field(2, 7), 1);
    }

    private static void fieldThrows() {
        BulbShapes x = new BulbShapes();
        for (int field : WRONG_FIELDS) {
            Check.outOfBounds("field(" + field + ", 0)", x, () -> x.field(field, 0));
            Check.outOfBounds("field(" + field + ", 8)", x, () -> x.field(field, 8));
        }
        for (int what : new int[] {-1, 8, Integer.MIN_VALUE, Integer.MAX_VALUE}) {
            Check.illegalArgument("field(0, " + what + ")", x, () -> x.field(0, what));
        }
    }

    private static void lampOfTellsItsProperties() {
        BulbShapes x = new BulbShapes();
        x.show(3, 1);
        x.pass(12);
        dueLamp(x, 3, 1, 0, 12, 1, 9);
        dueLamp(x, 3, 0, 0, 0, 0, 7);
        dueLamp(x, 2, 1, 0, 0, 0, 9);
        x.lamp(3, 1, true);
        Check.due("lamp 1 burnt", x.lampOf(3, 1, 0), 1);
        Check.due("its hours", x.lampOf(3, 1, 1), 12);
        Check.due("it is not lit", x.lampOf(3, 1, 2), 0);
        int[] withLamp = {7, 9, 8, 7, 1, 7, 7, 8, 8, 4, 1, 8, 6, 8, 8};
        for (int lamp = 0; lamp < LAMPS; lamp++) {
            Check.due("lampOf(0, " + lamp + ", 3)", x.lampOf(0, lamp, 3), withLamp[lamp]);
        }
        for (int lamp = 0; lamp < LAMPS; lamp++) {
            x.lamp(1, lamp, true);
        }
        Check.due("digits with a burnt lamp of their shape", x.lampOf(1, 1, 3), 1);
        Check.due("digits without a burnt lamp of their shape", x.lampOf(1, 0, 3), 0);
    }

    private static void dueLamp(BulbShapes x, int field, int lamp, int burnt, int hours, int lit, int digits) {
        int[] want = {burnt, hours, lit, digits};
        for (int what = 0; what < want.length; what++) {
            Check.due("lampOf(" + field + ", " + lamp + ", " + what + ")", x.lampOf(field, lamp, what), want[what]);
        }
    }

    private static void lampOfThrows() {
        BulbShapes x = new BulbShapes();
        for (int field : WRONG_FIELDS) {
            Check.outOfBounds("lampOf(" + field + ", 0, 0)", x, () -> x.lampOf(field, 0, 0));
            Check.outOfBounds("lampOf(" + field + ", 0, 4)", x, () -> x.lampOf(field, 0, 4));
        }
        for (int lamp : WRONG_LAMPS) {
            Check.outOfBounds("lampOf(0, " + lamp + ", 0)", x, () -> x.lampOf(0, lamp, 0));
            Check.outOfBounds("lampOf(0, " + lamp + ", -1)", x, () -> x.lampOf(0, lamp, -1));
        }
        for (int what : new int[] {-1, 4, Integer.MIN_VALUE, Integer.MAX_VALUE}) {
            Check.illegalArgument("lampOf(0, 0, " + what + ")", x, () -> x.lampOf(0, 0, what));
        }
    }

    private static void tableOfANewBoard() {
        BulbShapes x = new BulbShapes();
        int[] shapes = {0, 0, 0, 0, 0, 0, 1, 0, 1, 1};
        int[] shown = {075557, 026227, 071747, 071717, 055711, 074717, 034757, 071111, 025252, 075712};
        for (int f = 0; f < FIELDS; f++) {
            for (int digit = 0; digit < DIGITS; digit++) {
                dueTable(x, f, digit, shapes[digit], shown[digit], 0);
            }
        }
    }

    private static void dueTable(BulbShapes x, int field, int digit, int shape, int shown, int missing) {
        int[] want = {shape, shown, missing};
        for (int what = 0; what < want.length; what++) {
            String call = "table(" + field + ", " + digit + ", " + what + ")";
            Check.due(call, x.table(field, digit, what), want[what]);
        }
    }

    private static void tableTakesTheFewestMissingLamps() {
        BulbShapes x = new BulbShapes();
        // lamp 0 is in the first and the last shape of the 0
        x.lamp(0, 0, true);
        dueTable(x, 0, 0, 1, 025552, 0);
        dueTable(x, 1, 0, 0, 075557, 0);
        // lamp 14 too: still none is missing in the second one
        x.lamp(0, 14, true);
        dueTable(x, 0, 0, 1, 025552, 0);
        // lamp 1 is in all: two, one and two are missing
        x.lamp(0, 1, true);
        dueTable(x, 0, 0, 1, 005552, 1);
        // lamp 13 as well: of those with most left, again the second
        x.lamp(0, 13, true);
        dueTable(x, 0, 0, 1, 005550, 2);
        x.mend(0);
        x.lamp(0, 1, true);
        dueTable(x, 0, 0, 0, 055557, 1);
    }

    /** Without the lamps that a shape does not have, it is the one of which none is missing. */
    private static void tableKnowsTheShapes() {
        int[][] shapes = {
            {075557, 025552}, {026227, 022222, 013111}, {071747, 061243}, {071717, 061216},
            {055711, 045711, 013571}, {074717, 074616, 074712}, {074757, 034757, 024652},
            {071111, 071122, 071244}, {075757, 025252}, {NONE, 075712, 025316},
        };
        for (int digit = 0; digit < DIGITS; digit++) {
            for (int shape = 0; shape < shapes[digit].length; shape++) {
                if (shapes[digit][shape] != NONE) {
                    dueTable(boardWithJust(shapes[digit][shape]), 3, digit, shape, shapes[digit][shape], 0);
                }
            }
        }
        // there the 8 shows what the first shape of the 9 does, so the 9 has its second one
        dueTable(boardWithJust(075717), 3, 8, 0, 075717, 1);
        dueTable(boardWithJust(075717), 3, 9, 1, 075712, 0);
    }

    private static BulbShapes boardWithJust(int lamps) {
        BulbShapes x = new BulbShapes();
        x.set(0, 1);
        for (int lamp = 0; lamp < LAMPS; lamp++) {
            if ((lamps >> (LAMPS - 1 - lamp) & 1) == 0) {
                x.lamp(3, lamp, true);
            }
        }
        return x;
    }

    private static void tableWithoutAShape() {
        BulbShapes x = new BulbShapes();
        x.set(0, 5);
        for (int digit : new int[] {5, 7, 8, 9}) {
            dueTable(x, 2, digit, NONE, NONE, NONE);
        }
        dueTable(x, 2, 6, 2, 024652, 0);
    }

    private static void tableThrows() {
        BulbShapes x = new BulbShapes();
        for (int field : WRONG_FIELDS) {
            Check.outOfBounds("table(" + field + ", 0, 0)", x, () -> x.table(field, 0, 0));
            Check.outOfBounds("table(" + field + ", 10, 3)", x, () -> x.table(field, 10, 3));
        }
        for (int digit : WRONG_DIGITS) {
            Check.illegalArgument("table(0, " + digit + ", 0)", x, () -> x.table(0, digit, 0));
        }
        for (int what : new int[] {-1, 3, Integer.MIN_VALUE, Integer.MAX_VALUE}) {
            Check.illegalArgument("table(0, 0, " + what + ")", x, () -> x.table(0, 0, what));
        }
    }

    private static void readTakesTheNearestDigit() {
        BulbShapes x = new BulbShapes();
        int[] shown = {075557, 026227, 071747, 071717, 055711, 074717, 034757, 071111, 025252, 075712};
        for (int digit = 0; digit < DIGITS; digit++) {
            Check.due("read(0, lamps of " + digit + ")", x.read(0, shown[digit]), digit);
        }
        Check.due("read(0, all lamps)", x.read(0, 077777), 0);
        Check.due("read(0, no lamps): 7 and 8 are as near", x.read(0, 0), NONE);
        Check.due("read(0, 21845)", x.read(0, 21845), NONE);
        Check.due("read of a shape that is not in the table", x.read(0, 075757), 0);
        for (int lamp = 0; lamp < LAMPS; lamp++) {
            x.lamp(0, lamp, true);
        }
        Check.due("read(0, 0) where all lamps are burnt", x.read(0, 0), 0);
        Check.due("read(0, 77777) where all lamps are burnt", x.read(0, 077777), 0);
    }

    private static void readThrows() {
        BulbShapes x = new BulbShapes();
        for (int field : WRONG_FIELDS) {
            Check.outOfBounds("read(" + field + ", 0)", x, () -> x.read(field, 0));
            Check.outOfBounds("read(" + field + ", -1)", x, () -> x.read(field, -1));
        }
        for (int lamps : new int[] {-1, 32768, Integer.MIN_VALUE, Integer.MAX_VALUE}) {
            Check.illegalArgument("read(0, " + lamps + ")", x, () -> x.read(0, lamps));
        }
    }

    private static void countTellsNumbers() {
        BulbShapes x = new BulbShapes();
        x.number(118);
        x.set(1, 1);
        x.pass(60);
        x.lamp(0, 3, true);
        dueCounts(x, 60, 1, 3, 0, 8 + 8 + 7, 0, 118, 4);
        x.pass(40);
        dueCounts(x, 100, 24, 3, 0, x.count(4), 23, x.count(6), 5);
        x.mend(0);
        x.mend(1);
        x.mend(2);
        dueCounts(x, 100, 7, 3, 0, x.count(4), 23, x.count(6), 6);
        x.set(0, 5);
        x.mend(3);
        dueCounts(x, 100, 0, 3, 1, 16, 23, NONE, 6);
        x.undo();
        Check.due("burnt lamps behind undo", x.count(1), 7);
    }

    private static void dueCounts(BulbShapes x, int... want) {
        for (int what = 0; what < want.length; what++) {
            Check.due("count(" + what + ")", x.count(what), want[what]);
        }
    }

    private static void countTellsTheNumberThatIsShown() {
        BulbShapes x = new BulbShapes();
        Check.due("no digit", x.count(6), NONE);
        x.number(0);
        Check.due("0", x.count(6), 0);
        x.number(9870);
        Check.due("9870", x.count(6), 9870);
        x.show(0, 0);
        Check.due("0870", x.count(6), 870);
        x.show(0, NONE);
        Check.due("870", x.count(6), 870);
        x.show(2, NONE);
        Check.due("8 0: a gap", x.count(6), NONE);
        x.show(1, NONE);
        Check.due("0 alone", x.count(6), 0);
        x.show(0, 3);
        x.show(3, NONE);
        Check.due("3 and none behind it", x.count(6), NONE);
        x.number(8);
        x.set(0, 5);
        Check.due("a dark digit", x.count(6), NONE);
        x.set(0, 2);
        x.number(81);
        x.set(0, 5);
        Check.due("a dark digit ahead of one that is shown", x.count(6), NONE);
    }

    private static void countThrows() {
        BulbShapes x = new BulbShapes();
        for (int what : new int[] {-1, 8, Integer.MIN_VALUE, Integer.MAX_VALUE}) {
            Check.illegalArgument("count(" + what + ")", x, () -> x.count(what));
        }
    }

    private static void settingTellsItsValue() {
        BulbShapes x = new BulbShapes();
        x.set(0, 4);
        x.set(1, 77);
        Check.due("setting(0)", x.setting(0), 4);
        Check.due("setting(1)", x.setting(1), 77);
        for (int setting : new int[] {-1, 2, Integer.MIN_VALUE, Integer.MAX_VALUE}) {
            Check.outOfBounds("setting(" + setting + ")", x, () -> x.setting(setting));
        }
    }
}
