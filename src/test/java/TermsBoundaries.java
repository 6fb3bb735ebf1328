import java.util.ArrayList;
import java.util.List;
import java.util.TreeSet;

/** The section 'Terms' but for undo and exceptions: fields, tables, hours, reading, settings, input text. */
final class TermsBoundaries {
    private static final int NONE = Boards.NONE;

    /** Setting 0, the lamps that are burnt, and behind -1 the shape, its shown lamps, its missing ones. */
    private static final int[][][] SHAPES = {
        {{1, -1, 0, 075557, 0}, {1, 14, -1, 1, 025552, 0}},
        {{1, -1, 0, 026227, 0}, {1, 14, -1, 1, 022222, 0}, {1, 13, -1, 2, 013111, 0}},
        {{1, -1, 0, 071747, 0}, {4, -1, 1, 061243, 0}, {5, 8, 11, 14, -1, 2, 071246, 1}},
        {{1, -1, 0, 071717, 0}, {3, -1, 1, 061216, 0}, {5, -1, 2, 071316, 0}},
        {{1, -1, 0, 055711, 0}, {5, 13, -1, 1, 045711, 0}, {5, 12, -1, 2, 013571, 0}},
        {{1, -1, 0, 074717, 0}, {4, -1, 1, 074616, 0}, {1, 12, -1, 2, 074712, 0}},
        {{1, -1, 0, 074757, 0}, {2, -1, 1, 034757, 0}, {3, -1, 2, 024652, 0}},
        {{1, -1, 0, 071111, 0}, {1, 14, -1, 1, 071122, 0}, {4, 10, -1, 2, 071244, 0}},
        {{1, -1, 0, 075757, 0}, {2, -1, 1, 025252, 0}, {3, -1, 2, 075257, 0}},
        {{1, -1, 0, 075717, 0}, {2, -1, 1, 075712, 0}, {3, 14, -1, 2, 025316, 0}},
    };

    private TermsBoundaries() {
    }

    static void run() {
        fieldsAndLamps();
        shapes();
        tables();
        dark();
        hours();
        reading();
        settings();
        inputText();
    }

    private static void fieldsAndLamps() {
        Sentences.in("What it is");
        Sentences.holds("An object is used for at most 512 calls after it has been made;",
                TermsBoundaries::theLastCall);
        Sentences.in("Terms");
        Sentences.holds("All numbers are integers, but for a share.", TermsBoundaries::onlyTheShareIsNoInteger);
        Sentences.holds("There are 4 fields, numbered from 0", TermsBoundaries::fourFields);
        Sentences.holds("each with 15 lamps in 5 rows of 3, numbered from 0 row by row, from the left to the right",
                TermsBoundaries::lampsRowByRow);
        Sentences.holds("A lamp works, at first, or is burnt.", TermsBoundaries::lampsWorkAtFirst);
        Sentences.holds("with the bit 14 - k for the lamp k", TermsBoundaries::bitOfEachLamp);
        Sentences.holds("(So its five octal digits are the rows, from above.)", TermsBoundaries::octalDigitsAreRows);
    }

    private static void theLastCall() {
        BulbShapes x = new BulbShapes();
        for (int call = 1; call < 512; call++) {
            x.number(call);
        }
        Check.due("the 512th call, count(6)", x.count(6), 511);
    }

    private static void onlyTheShareIsNoInteger() {
        BulbShapes x = Boards.without(5);
        Check.due("clarity()", x.clarity(), 0.6);
    }

    private static void fourFields() {
        BulbShapes x = new BulbShapes();
        for (int f = 0; f < 4; f++) {
            Check.due("show(" + f + ", 1)", x.show(f, 1), NONE);
        }
        Check.due("fields that have a digit", x.count(2), 4);
        Check.outOfBounds("show(-1, 1)", x, () -> x.show(-1, 1));
        Check.outOfBounds("show(4, 1)", x, () -> x.show(4, 1));
    }

    private static void lampsRowByRow() {
        BulbShapes x = new BulbShapes();
        x.show(0, 7);
        int[] lit = {1, 1, 1, 0, 0, 1, 0, 0, 1, 0, 0, 1, 0, 0, 1};
        for (int lamp = 0; lamp < 15; lamp++) {
            Check.due("lampOf(0, " + lamp + ", 2) of the 7", x.lampOf(0, lamp, 2), lit[lamp]);
        }
        Check.outOfBounds("lampOf(0, -1, 2)", x, () -> x.lampOf(0, -1, 2));
        Check.outOfBounds("lampOf(0, 15, 2)", x, () -> x.lampOf(0, 15, 2));
    }

    private static void lampsWorkAtFirst() {
        BulbShapes x = new BulbShapes();
        Check.due("lampOf(0, 0, 0) at first", x.lampOf(0, 0, 0), 0);
        Check.due("lampOf(3, 14, 0) at first", x.lampOf(3, 14, 0), 0);
        x.lamp(3, 14, true);
        Check.due("lampOf(3, 14, 0) burnt", x.lampOf(3, 14, 0), 1);
        Check.due("lampOf(0, 0, 0) still", x.lampOf(0, 0, 0), 0);
    }

    /** With one lamp left and setting 0 at 1 there is a digit that shows it, and one that shows none. */
    private static void bitOfEachLamp() {
        for (int lamp = 0; lamp < Boards.LAMPS; lamp++) {
            BulbShapes x = Boards.without(1);
            Boards.burnAll(x, 3);
            x.lamp(3, lamp, false);
            List<Integer> shown = new ArrayList<>();
            for (int digit = 0; digit < Boards.DIGITS; digit++) {
                if (x.table(3, digit, 0) != NONE) {
                    shown.add(x.table(3, digit, 1));
                }
            }
            Check.due("what is shown with the lamp " + lamp + " alone",
                    new TreeSet<>(shown), new TreeSet<>(List.of(0, 1 << (14 - lamp))));
        }
    }

    private static void octalDigitsAreRows() {
        BulbShapes x = new BulbShapes();
        x.show(2, 7);
        Check.due("lamps of the 7", x.field(2, 2), 071111);
    }

    private static void shapes() {
        Sentences.holds("Each digit has 3 shapes, numbered from 0, which are sets of lamps;",
                TermsBoundaries::eachShapeIsUsed);
        String[] told = {"0: 75557, 25552, 65553;", "1: 26227, 22222, 13111;", "2: 71747, 61243, 71247;",
            "3: 71717, 61216, 71316;", "4: 55711, 45711, 13571;", "5: 74717, 74616, 74712;",
            "6: 74757, 34757, 24652;", "7: 71111, 71122, 71244;", "8: 75757, 25252, 75257;",
            "9: 75717, 75712, 25316."};
        for (int d = 0; d < told.length; d++) {
            int digit = d;
            Sentences.holds(told[d], () -> shapesOf(digit));
        }
        Sentences.holds("What a shape shows on a field are its lamps that are not burnt;",
                TermsBoundaries::burntLampsAreNotShown);
        Sentences.holds("the others are missing.", TermsBoundaries::burntLampsAreMissing);
    }

    /** But for 65553: it has all lamps of 25552, so never the fewest missing ones of the 0. */
    private static void eachShapeIsUsed() {
        for (int digit = 0; digit < Boards.DIGITS; digit++) {
            Check.due("shapes of " + digit + " with a test", SHAPES[digit].length, digit == 0 ? 2 : 3);
        }
        for (int lamp = 0; lamp < Boards.LAMPS; lamp++) {
            BulbShapes x = Boards.without(5, lamp);
            Check.due("65553 is not used", x.table(3, 0, 0) == 2, false);
        }
    }

    private static void shapesOf(int digit) {
        for (int[] told : SHAPES[digit]) {
            BulbShapes x = Boards.without(told[0]);
            int i = 1;
            for (; told[i] >= 0; i++) {
                x.lamp(3, told[i], true);
            }
            Boards.dueEntry(x, 3, digit, told[i + 1], told[i + 2], told[i + 3]);
        }
    }

    private static void burntLampsAreNotShown() {
        BulbShapes x = Boards.without(2, 1);
        Check.due("the 0 without the lamp 1", x.table(3, 0, 1), 055557);
        Check.due("the 0 of another field", x.table(2, 0, 1), 075557);
    }

    private static void burntLampsAreMissing() {
        BulbShapes x = Boards.without(2, 1);
        Check.due("missing of the 0 without the lamp 1", x.table(3, 0, 2), 1);
        Check.due("missing of the 0 of another field", x.table(2, 0, 2), 0);
        x.lamp(3, 4, true);
        Check.due("missing without a lamp that it does not have", x.table(3, 0, 2), 1);
    }

    private static void tables() {
        Sentences.in("Tables");
        Sentences.holds("The table of a field", TermsBoundaries::eachFieldHasItsTable);
        Sentences.holds("the digits are gone through from 0 to 9;", TermsBoundaries::lowerDigitsChooseFirst);
        Sentences.holds("differ in at least setting 0 lamps", TermsBoundaries::atLeastSetting0);
        Sentences.holds("differ in at least setting 0 lamps from what the shape", TermsBoundaries::byWhatIsShown);
        Sentences.holds("of each lower digit that has one shows", TermsBoundaries::hiddenDigitsDoNotHinder);
        Sentences.holds("the one with the fewest missing lamps", TermsBoundaries::fewestMissing);
        Sentences.holds("of several the lowest one.", TermsBoundaries::ofSeveralTheLowest);
        Sentences.holds("If there is no such shape, the digit has none, and cannot be shown.",
                TermsBoundaries::noShape);
        Sentences.holds("(The tables are always those by the lamps as they are.)", TermsBoundaries::tablesAsLampsAre);
    }

    private static void eachFieldHasItsTable() {
        for (int field = 0; field < 4; field++) {
            BulbShapes x = new BulbShapes();
            x.lamp(field, 14, true);
            for (int f = 0; f < 4; f++) {
                Check.due("shape of the 0 in field " + f, x.table(f, 0, 0), f == field ? 1 : 0);
            }
        }
    }

    private static void lowerDigitsChooseFirst() {
        Boards.dueEntry(Boards.without(1), 0, 8, 0, 075757, 0);
        BulbShapes x = Boards.without(2);
        // 75557 and 75757 differ in one lamp: it is the 8 that gives way
        Boards.dueEntry(x, 0, 0, 0, 075557, 0);
        Boards.dueEntry(x, 0, 8, 1, 025252, 0);
    }

    private static void atLeastSetting0() {
        Boards.dueShapes("with setting 0 at 1", Boards.without(1), 0, 0, 0, 0, 0, 0, 0, 0, 0, 0, 0);
        Boards.dueShapes("with setting 0 at 2", Boards.without(2), 0, 0, 0, 0, 0, 0, 0, 1, 0, 1, 1);
        Boards.dueShapes("with setting 0 at 3", Boards.without(3), 0, 0, 0, 0, 1, 0, 0, 2, 0, 2, 1);
        Boards.dueShapes("with setting 0 at 4", Boards.without(4), 0, 0, 0, 1, 1, 0, 1, 2, 0, NONE, NONE);
        Boards.dueShapes("with setting 0 at 5", Boards.without(5), 0,
                0, 0, 1, 2, 0, NONE, 2, NONE, NONE, NONE);
    }

    /** Where the lamps are burnt in which two shapes differ, they are shown alike. */
    private static void byWhatIsShown() {
        BulbShapes x = Boards.without(1, 7);
        // without the lamp 7 the first shape of the 8 shows what the 0 does
        Boards.dueEntry(x, 3, 0, 0, 075557, 0);
        Boards.dueEntry(x, 3, 8, 1, 025052, 1);
    }

    private static void hiddenDigitsDoNotHinder() {
        // the 6 has no shape, so the 8 has one though it is near to all of the 6
        Boards.dueShapes("without the lamp 0", Boards.without(4, 0), 3, 1, 0, 0, 1, 2, 0, NONE, 0, 2, NONE);
    }

    private static void fewestMissing() {
        BulbShapes x = Boards.without(2, 0);
        Boards.dueEntry(x, 3, 0, 1, 025552, 0);
        x.lamp(3, 1, true);
        Boards.dueEntry(x, 3, 0, 1, 005552, 1);
        Boards.dueEntry(x, 3, 1, 2, 013111, 0);
    }

    private static void ofSeveralTheLowest() {
        BulbShapes x = Boards.without(2, 1);
        // each shape of the 0 misses one lamp
        Boards.dueEntry(x, 3, 0, 0, 055557, 1);
        // of the 7 one lamp is missing in the first shape, and none in both others
        Boards.dueEntry(Boards.without(2, 14), 3, 7, 1, 071122, 0);
    }

    private static void noShape() {
        BulbShapes x = Boards.without(5);
        for (int digit : new int[] {5, 7, 8, 9}) {
            Boards.dueEntry(x, 3, digit, NONE, NONE, NONE);
            Check.illegalState("show(3, " + digit + ")", x, () -> x.show(3, digit));
        }
        Boards.burnAll(x, 3);
        Boards.dueShapes("without lamps", x, 3, 1, NONE, NONE, NONE, NONE, NONE, NONE, NONE, NONE, NONE);
        x.set(0, 1);
        Boards.dueShapes("without lamps, setting 0 at 1", x, 3,
                1, NONE, NONE, NONE, NONE, NONE, NONE, NONE, NONE, NONE);
    }

    private static void tablesAsLampsAre() {
        BulbShapes x = new BulbShapes();
        x.lamp(3, 14, true);
        Check.due("shape of the 0 behind lamp(3, 14, true)", x.table(3, 0, 0), 1);
        x.lamp(3, 14, false);
        Check.due("shape of the 0 behind lamp(3, 14, false)", x.table(3, 0, 0), 0);
        Check.write(x, "3-o");
        x.lamps();
        Check.due("shape of the 0 behind lamps()", x.table(3, 0, 0), 1);
        x.mend(3);
        Check.due("shape of the 0 behind mend(3)", x.table(3, 0, 0), 0);
        x.undo();
        Check.due("shape of the 0 behind undo()", x.table(3, 0, 0), 1);
        x.mend(3);
        x.show(3, 0);
        x.set(1, 1);
        x.pass(99);
        Check.due("shape of the 0 behind pass(99)", x.table(3, 0, 0), 0);
        x.pass(1);
        Check.due("shape of the 0 behind pass(1)", x.table(3, 0, 0), 1);
        x.set(0, 5);
        Check.due("shape of the 9 behind set(0, 5)", x.table(0, 9, 0), NONE);
    }

    private static void dark() {
        Sentences.holds("A field shows a digit or is dark, at first dark.", TermsBoundaries::atFirstDark);
        Sentences.holds("When its digit cannot be shown any more, it is dark as long as that is so;",
                TermsBoundaries::darkAsLongAsThatIsSo);
        Sentences.holds("When its digit cannot be shown any more", TermsBoundaries::darkByEachCall);
        Sentences.holds("the digit stays its digit.", TermsBoundaries::theDigitStays);
    }

    private static void atFirstDark() {
        BulbShapes x = new BulbShapes();
        for (int f = 0; f < 4; f++) {
            dueDark(x, f, NONE);
        }
        x.show(1, 0);
        dueShown(x, 1, 0, 0, 075557);
        dueDark(x, 0, NONE);
    }

    private static void dueDark(BulbShapes x, int field, int digit) {
        Check.due("digit of the dark field", x.field(field, 0), digit);
        Check.due("shape of the dark field", x.field(field, 1), NONE);
        Check.due("lamps of the dark field", x.field(field, 2), 0);
        Check.due("missing lamps of the dark field", x.field(field, 4), 0);
    }

    private static void dueShown(BulbShapes x, int field, int digit, int shape, int lit) {
        Check.due("digit of the field", x.field(field, 0), digit);
        Check.due("shape of the field", x.field(field, 1), shape);
        Check.due("lamps of the field", x.field(field, 2), lit);
    }

    /** With setting 0 at 3 the 8 cannot be shown without the lamp 6. */
    private static void darkAsLongAsThatIsSo() {
        BulbShapes x = Boards.without(3);
        x.show(3, 8);
        dueShown(x, 3, 8, 2, 075257);
        x.lamp(3, 6, true);
        dueDark(x, 3, 8);
        x.lamp(3, 4, true);
        x.pass(5);
        dueDark(x, 3, 8);
        x.lamp(3, 6, false);
        dueShown(x, 3, 8, 2, 075257);
    }

    private static void darkByEachCall() {
        BulbShapes x = Boards.without(3);
        x.show(3, 8);
        Check.write(x, "3-g");
        x.lamps();
        dueDark(x, 3, 8);
        x.mend(3);
        dueShown(x, 3, 8, 2, 075257);
        x.undo();
        dueDark(x, 3, 8);
        x.undo();
        dueShown(x, 3, 8, 2, 075257);
        x.set(0, 4);
        dueDark(x, 3, 8);
        x.set(0, 3);
        x.set(1, 1);
        x.pass(99);
        dueShown(x, 3, 8, 2, 075257);
        x.pass(1);
        dueDark(x, 3, 8);
    }

    private static void theDigitStays() {
        BulbShapes x = Boards.without(2);
        x.show(3, 8);
        x.set(0, 4);
        Check.due("field(3, 0) in the dark", x.field(3, 0), 8);
        Check.due("fields that have a digit", x.count(2), 1);
        Check.due("show(3, NONE)", x.show(3, NONE), 8);
    }

    private static void hours() {
        Sentences.in("Hours");
        Sentences.holds("In an hour each lamp that is shown by a field is lit, and its hours become 1 more;",
                TermsBoundaries::litLampsGetHours);
        Sentences.holds("each lamp that is shown by a field", TermsBoundaries::otherLampsGetNone);
        Sentences.holds("with setting 1 above 0 the lamps", TermsBoundaries::setting1Above0);
        Sentences.holds("lit or not", TermsBoundaries::litOrNot);
        Sentences.holds("whose hours are at least 100 * setting 1 then", TermsBoundaries::atLeast100TimesSetting1);
        Sentences.holds("the lamps, lit or not, whose hours are at least 100 * setting 1",
                TermsBoundaries::eachLampByItself);
        Sentences.holds("are burnt at the end of the hour.", TermsBoundaries::burntAtTheEndOfTheHour);
    }

    private static void litLampsGetHours() {
        BulbShapes x = Boards.living(1, 0);
        x.pass(1);
        Boards.dueHours(x, 3, 026227, 1);
        x.pass(500);
        Boards.dueHours(x, 3, 026227, 501);
    }

    private static void otherLampsGetNone() {
        BulbShapes x = Boards.without(4, 1);
        x.number(10);
        Check.due("shape of the 0 without the lamp 1", x.field(3, 1), 0);
        x.show(0, 7);
        x.set(0, 5);
        Check.due("the 7 is dark", x.field(0, 1), NONE);
        x.pass(3);
        Boards.dueHours(x, 3, 055557, 3);
        Boards.dueHours(x, 2, 026227, 3);
        Boards.dueHours(x, 1, 0, 0);
        Boards.dueHours(x, 0, 0, 0);
    }

    private static void setting1Above0() {
        BulbShapes x = Boards.living(1, 0);
        Check.due("burning with setting 1 at 0", Boards.pass(x, 1000), 0);
        BulbShapes y = Boards.living(1, 1);
        Check.due("burning with setting 1 at 1", y.pass(100), 8);
    }

    private static void litOrNot() {
        BulbShapes x = Boards.living(1, 0);
        x.pass(100);
        x.show(3, NONE);
        x.set(1, 1);
        Check.due("burning of lamps that are not lit", x.pass(1), 8);
        Boards.dueHours(x, 3, 026227, 100);
        BulbShapes y = Boards.living(1, 0);
        y.pass(99);
        y.show(3, NONE);
        y.set(1, 1);
        Check.due("burning of lamps with 99 hours that are not lit", y.pass(500), 0);
    }

    private static void atLeast100TimesSetting1() {
        BulbShapes x = Boards.living(1, 1);
        Check.due("burning in 99 hours", x.pass(99), 0);
        Check.due("burning in the 100th", x.pass(1), 8);
        BulbShapes y = Boards.living(1, 99);
        Check.due("burning in 9899 hours", Boards.pass(y, 9899), 0);
        Check.due("burning in the 9900th", y.pass(1), 8);
        BulbShapes z = Boards.living(1, 0);
        z.pass(350);
        z.set(1, 4);
        Check.due("burning with 351 hours of 400", z.pass(1), 0);
        z.set(1, 3);
        Check.due("burning when the setting changes", z.count(1), 0);
        Check.due("burning with 352 hours of 300", z.pass(1), 8);
    }

    private static void eachLampByItself() {
        for (int field = 0; field < Boards.FIELDS; field++) {
            for (int lamp = 0; lamp < Boards.LAMPS; lamp++) {
                BulbShapes x = Boards.withOneOld(field, lamp);
                Check.due("burning of the lamp " + lamp + " in 49 hours", x.pass(49), 0);
                Check.due("burning of it in the next one", x.pass(1), 1);
                Check.due("lampOf(" + field + ", " + lamp + ", 0)", x.lampOf(field, lamp, 0), 1);
            }
        }
    }

    private static void burntAtTheEndOfTheHour() {
        BulbShapes x = Boards.living(1, 1);
        x.pass(99);
        Check.due("lit ahead of the 100th hour", x.field(3, 2), 026227);
        x.pass(1);
        Boards.dueHours(x, 3, 026227, 100);
        Check.due("lit behind it, by the third shape", x.field(3, 2), 011110);
        x.pass(1);
        for (int lamp : new int[] {1, 3, 4, 7, 10, 12, 13, 14}) {
            Check.due("hours of the burnt lamp " + lamp, x.lampOf(3, lamp, 1), 100);
        }
        for (int lamp : new int[] {2, 5, 8, 11}) {
            Check.due("hours of the lamp " + lamp + ", lit since then", x.lampOf(3, lamp, 1), 1);
        }
    }

    private static void reading() {
        Sentences.in("Reading");
        Sentences.holds("from whose shape's shown lamps it differs in the fewest lamps;", TermsBoundaries::nearest);
        Sentences.holds("whose shape's shown lamps", TermsBoundaries::byShownLamps);
        Sentences.holds("if it is so for two digits", TermsBoundaries::twoAsNear);
    }

    private static void nearest() {
        BulbShapes x = new BulbShapes();
        int[] shown = {075557, 026227, 071747, 071717, 055711, 074717, 034757, 071111, 025252, 075712};
        for (int digit = 0; digit < shown.length; digit++) {
            Check.due("read(0, " + shown[digit] + ")", x.read(0, shown[digit]), digit);
        }
        Check.due("read(0, 1): the 7, in 6 lamps", x.read(0, 1), 7);
        Check.due("read(0, 077777): the 0, in 3 lamps", x.read(0, 077777), 0);
    }

    private static void byShownLamps() {
        BulbShapes x = Boards.without(2);
        Boards.burnAll(x, 3);
        // only the 0 has a shape, and shows nothing
        Check.due("read(3, 0)", x.read(3, 0), 0);
        Check.due("read(3, 071111)", x.read(3, 071111), 0);
        Check.due("read(3, 077777), in all 15 lamps", x.read(3, 077777), 0);
        Check.due("read(2, 071111)", x.read(2, 071111), 7);
    }

    /** The 0 has a shape with any lamps, so that no digit has one cannot be. */
    private static void twoAsNear() {
        BulbShapes x = new BulbShapes();
        Check.due("read(0, 0): 7 and 8, in 7 lamps", x.read(0, 0), NONE);
        Check.due("read(0, 055): 6, 7 and 8, in 7 lamps", x.read(0, 055), NONE);
        Check.due("read(0, 0117): four digits, in 6 lamps", x.read(0, 0117), NONE);
        Check.due("read(0, 052525): five digits, in 7 lamps", x.read(0, 052525), NONE);
    }

    private static void settings() {
        Sentences.in("Settings");
        Sentences.holds("0: in how many lamps two digits have to differ, 1 to 5, at first 2;",
                () -> dueSetting(0, 1, 5, 2));
        Sentences.holds("0: in how many lamps two digits have to differ", TermsBoundaries::digitsDifferBySetting0);
        Sentences.holds("1: the life of a lamp, 0 to 99, at first 0.", () -> dueSetting(1, 0, 99, 0));
    }

    private static void dueSetting(int setting, int first, int last, int start) {
        BulbShapes x = new BulbShapes();
        Check.due("setting(" + setting + ") at first", x.setting(setting), start);
        x.set(setting, last);
        Check.due("setting(" + setting + ")", x.setting(setting), last);
        x.set(setting, first);
        Check.due("setting(" + setting + ")", x.setting(setting), first);
        for (int value : Boards.beyond(first, last)) {
            Check.illegalArgument("set(" + setting + ", " + value + ")", x, () -> x.set(setting, value));
        }
    }

    private static void digitsDifferBySetting0() {
        for (int strictness = 1; strictness <= 5; strictness++) {
            BulbShapes x = Boards.without(strictness);
            Check.due("field(3, 6) with setting 0 at " + strictness, x.field(3, 6), strictness);
        }
    }

    private static void inputText() {
        Sentences.in("Input text");
        Sentences.holds("The buffer has at most 60 characters.", TermsBoundaries::atMost60Characters);
        Sentences.holds("one or more parts with \";\" between them", TermsBoundaries::parts);
        Sentences.holds("each a field, 0 to 3", TermsBoundaries::fieldsInATextAre0To3);
        Sentences.holds("\"-\" (they burn) or \"+\" (they are mended)", TermsBoundaries::minusOrPlus);
        Sentences.holds("one or more letters \"a\" to \"o\", the lamps 0 to 14.", TermsBoundaries::letters);
        Sentences.holds("The buffer is read from left to right;", TermsBoundaries::fromLeftToRight);
        Sentences.holds("a character is a syntax error if no lamps as a text", TermsBoundaries::errorsByPlace);
        Sentences.holds("of any length", TermsBoundaries::ofAnyLength);
    }

    private static void atMost60Characters() {
        BulbShapes x = new BulbShapes();
        Check.write(x, "~".repeat(59));
        Check.due("append of the 60th", x.append('~'), 60);
        Check.illegalState("append of the 61st", x, () -> x.append('~'));
        Check.due("clearBuffer()", x.clearBuffer(), 60);
    }

    private static void parts() {
        dueLamps("0-a", 1);
        dueLamps("0-a;1-b", 2);
        dueLamps("0-a;1-b;2-c;3-d", 4);
        dueNoLamps("");
        dueNoLamps(";");
        dueNoLamps("0-a;");
        dueNoLamps(";0-a");
        dueNoLamps("0-a;;1-b");
        dueNoLamps("0-a1-b");
        dueNoLamps("0-a,1-b");
    }

    private static void fieldsInATextAre0To3() {
        dueLamps("0-a", 1);
        dueLamps("3-a", 1);
        dueNoLamps("/-a");
        dueNoLamps("4-a");
        dueNoLamps("-a");
        dueNoLamps("00-a");
    }

    private static void minusOrPlus() {
        dueLamps("1-a", 1);
        dueLamps("1+a", 0);
        dueLamps("1-abc;1+b", 2);
        for (String sign : new String[] {"", ",", "*", ".", "--", "-+", "+-"}) {
            dueNoLamps("1" + sign + "a");
        }
    }

    private static void letters() {
        dueLamps("2-a", 1);
        dueLamps("2-o", 1);
        dueLamps("2-abcdefghijklmno", 15);
        dueLamps("2-aa", 1);
        for (String letters : new String[] {"", "`", "p", "A", "O", "ap", "oa`"}) {
            dueNoLamps("2-" + letters);
        }
    }

    private static void dueLamps(String text, int burnt) {
        BulbShapes x = new BulbShapes();
        Check.write(x, text);
        Check.due("firstError() of " + text, x.firstError(), text.length());
        Check.due("lamps() of " + text, x.lamps(), burnt);
    }

    private static void dueNoLamps(String text) {
        BulbShapes x = new BulbShapes();
        Check.write(x, text);
        Check.illegalArgument("lamps() of " + text, x, x::lamps);
    }

    private static void dueError(String text, int want) {
        BulbShapes x = new BulbShapes();
        Check.write(x, text);
        Check.due("firstError() of " + text, x.firstError(), want);
    }

    private static void fromLeftToRight() {
        dueError("x0-a", 0);
        dueError("a-0", 0);
        dueError("0-ax;9", 3);
        dueError("0x-x", 1);
    }

    /** At each place: what may stand there, of all characters that the buffer takes. */
    private static void errorsByPlace() {
        duePlace("", "0123");
        duePlace("2", "-+");
        duePlace("2-", "abcdefghijklmno");
        duePlace("2+", "abcdefghijklmno");
        duePlace("2-a", "abcdefghijklmno;");
        duePlace("2-a;", "0123");
        duePlace("2-a;3", "-+");
        duePlace("2-a;3+", "abcdefghijklmno");
        duePlace("2-a;3+o", "abcdefghijklmno;");
    }

    private static void duePlace(String ahead, String allowed) {
        for (char c = 33; c <= 126; c++) {
            dueError(ahead + c, ahead.length() + (allowed.indexOf(c) >= 0 ? 1 : 0));
        }
    }

    /** The full buffer may end anywhere: longer lamps as a text would begin with it. */
    private static void ofAnyLength() {
        String letters = "abcdefghijklmno".repeat(4);
        dueError("0-" + letters.substring(0, 58), 60);
        dueError("0-" + letters.substring(0, 57) + ";", 60);
        dueError("0-" + letters.substring(0, 56) + ";1", 60);
        dueError("0-" + letters.substring(0, 55) + ";1+", 60);
        dueError("0-" + letters.substring(0, 57) + "-", 59);
    }
}
