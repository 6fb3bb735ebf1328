import java.math.BigInteger;

/** Promises 19 to 24: what would be, which changes nothing. */
final class WouldBeBoundaries {
    private static final int NONE = Boards.NONE;

    /** Of a whole field, by setting 0 from 1 on: for each lamp the digits that could not be shown without it. */
    private static final int[][] HIDDEN = {
        {0, 0, 0, 0, 0, 0, 0, 0, 0, 0, 0, 0, 0, 0, 0},
        {0, 0, 0, 0, 0, 0, 0, 0, 0, 0, 0, 0, 0, 0, 0},
        {0, 0, 0, 0, 0, 0, 1, 1, 2, 0, 0, 0, 0, 0, 0},
        {2, 2, 3, 2, 2, 3, 2, 2, 2, 2, 2, 2, 2, 2, 3},
        {4, 4, 4, 3, 4, 4, 4, 3, 4, 4, 4, 4, 4, 4, 4},
    };
    private static final int[][] CHANGES = {
        {5, 1, 7, 3, 0, 2, 4, 3, 6, 2, 1, 1, 7, 1, 8},
        {4, 1, 6, 4, 0, 1, 3, 2, 6, 2, 1, 2, 6, 1, 6},
        {2, 3, 4, 3, 0, 2, 3, 5, 5, 3, 1, 6, 6, 2, 5},
        {6, 2, 4, 3, 0, 1, 2, 2, 1, 3, 2, 1, 6, 2, 5},
        {6, 2, 5, 7, 0, 0, 4, 5, 0, 3, 1, 0, 6, 2, 6},
    };
    private static final int[][] LEAST = {
        {1, 1, 2, 1, 1, 1, 1, 1, 2, 1, 1, 1, 1, 1, 2},
        {2, 2, 2, 2, 2, 2, 2, 2, 2, 2, 2, 2, 2, 2, 2},
        {3, 3, 3, 3, 3, 3, 3, 3, 4, 3, 3, 3, 3, 3, 3},
        {4, 4, 4, 4, 4, 4, 4, 4, 4, 4, 4, 4, 4, 4, 4},
        {5, 5, 5, 5, 5, 5, 5, 5, 5, 5, 5, 5, 5, 5, 5},
    };

    /** By setting 0 from 3 on: the lamps that are burnt so that that many digits, from the least on, can be shown. */
    private static final int[][][] BURNT = {
        {{8}, {7}, {}},
        {{14}, {}},
        {{2, 4, 6, 7, 8, 11, 14}, {3, 6, 9, 10, 13}, {7, 9, 12}, {10, 12}, {12, 14}, {}, {3}},
    };
    private static final int[] LEAST_DIGITS = {8, 7, 1};

    private WouldBeBoundaries() {
    }

    static void run() {
        promise19();
        promise20();
        promise21();
        promise22();
        promise23();
        promise24();
    }

    private static void promise19() {
        Sentences.in("Promise 19");
        Sentences.holds("Tells what a burnt lamp would do.", WouldBeBoundaries::ifBurntChangesNothing);
        Sentences.holds("Tells what a burnt lamp would do.", WouldBeBoundaries::ifBurntOfABurntLamp);
        Sentences.holds("`field`: 0 to 3", WouldBeBoundaries::ifBurntFields);
        Sentences.holds("`lamp`: 0 to 14", WouldBeBoundaries::ifBurntLamps);
        Sentences.holds("`what`: 0: digits that could not be shown there then;",
                () -> dueIfBurnt(0, HIDDEN));
        Sentences.holds("1: digits that would have another shape", () -> dueIfBurnt(1, CHANGES));
        Sentences.holds("or none instead of one", WouldBeBoundaries::noneInsteadOfOne);
        Sentences.holds("or one instead of none;", WouldBeBoundaries::oneInsteadOfNone);
        Sentences.holds("2: the least number of lamps in which two digits would differ", () -> dueIfBurnt(2, LEAST));
        Sentences.holds("NONE as in field()", WouldBeBoundaries::noneAsInField);
        Sentences.holds("Returns the number.", WouldBeBoundaries::ifBurntReturns);
        Sentences.holds("Throws `IndexOutOfBoundsException` if there is no such field or lamp",
                WouldBeBoundaries::ifBurntWithoutLamp);
        Sentences.holds("Throws `IllegalArgumentException` if what is not 0 to 2",
                WouldBeBoundaries::ifBurntOutOfRange);
    }

    private static void ifBurntChangesNothing() {
        BulbShapes x = Boards.without(3, 1);
        x.show(3, 8);
        for (int what = 0; what <= 2; what++) {
            int asked = what;
            Boards.dueNoChange(x, "ifBurnt(3, 6, " + what + ")", () -> x.ifBurnt(3, 6, asked));
        }
        Check.due("lampOf(3, 6, 0)", x.lampOf(3, 6, 0), 0);
        Check.due("field(3, 1)", x.field(3, 1) == NONE, false);
    }

    private static void ifBurntOfABurntLamp() {
        BulbShapes x = Boards.without(4, 5);
        Check.due("ifBurnt(3, 5, 0)", x.ifBurnt(3, 5, 0), 3);
        Check.due("ifBurnt(3, 5, 1)", x.ifBurnt(3, 5, 1), 0);
        Check.due("ifBurnt(3, 5, 2)", x.ifBurnt(3, 5, 2), 4);
        Boards.burnAll(x, 3);
        Check.due("ifBurnt(3, 0, 0) without lamps", x.ifBurnt(3, 0, 0), 9);
        Check.due("ifBurnt(3, 0, 1) without lamps", x.ifBurnt(3, 0, 1), 0);
        Check.due("ifBurnt(3, 0, 2) without lamps", x.ifBurnt(3, 0, 2), NONE);
    }

    private static void ifBurntFields() {
        BulbShapes x = new BulbShapes();
        x.set(0, 3);
        Boards.burnAll(x, 0);
        Boards.burnAll(x, 2);
        int[] want = {9, 2, 9, 2};
        for (int f = 0; f < Boards.FIELDS; f++) {
            Check.due("ifBurnt(" + f + ", 8, 0)", x.ifBurnt(f, 8, 0), want[f]);
        }
    }

    private static void ifBurntLamps() {
        BulbShapes x = new BulbShapes();
        Check.due("ifBurnt(0, 0, 1)", x.ifBurnt(0, 0, 1), 4);
        Check.due("ifBurnt(3, 14, 1)", x.ifBurnt(3, 14, 1), 6);
    }

    private static void dueIfBurnt(int what, int[][] want) {
        for (int strictness = 1; strictness <= 5; strictness++) {
            BulbShapes x = Boards.without(strictness);
            for (int lamp = 0; lamp < Boards.LAMPS; lamp++) {
                Check.due("ifBurnt(3, " + lamp + ", " + what + ") with setting 0 at " + strictness,
                        x.ifBurnt(3, lamp, what), want[strictness - 1][lamp]);
            }
        }
    }

    private static void noneInsteadOfOne() {
        BulbShapes x = Boards.without(4);
        Check.due("ifBurnt(3, 5, 1): the 5 alone", x.ifBurnt(3, 5, 1), 1);
        Check.due("ifBurnt(3, 5, 0)", x.ifBurnt(3, 5, 0), 3);
    }

    private static void oneInsteadOfNone() {
        BulbShapes x = Boards.without(5);
        // 5, 7 and 9 would have one instead of none, 3 and 6 none instead of one, 1 and 4 another one
        Check.due("ifBurnt(3, 3, 1)", x.ifBurnt(3, 3, 1), 7);
        Check.due("ifBurnt(3, 3, 0)", x.ifBurnt(3, 3, 0), 3);
    }

    private static void noneAsInField() {
        BulbShapes x = Boards.without(5, 2, 4, 6, 7, 8, 11);
        Check.due("field(3, 6) of three digits", x.field(3, 6), 5);
        Check.due("ifBurnt(3, 14, 2): one digit would be left", x.ifBurnt(3, 14, 2), NONE);
        Check.due("ifBurnt(3, 14, 0)", x.ifBurnt(3, 14, 0), 9);
        BulbShapes y = Boards.without(5, 3, 6, 9, 10);
        Check.due("ifBurnt(3, 13, 2): two digits would be left", y.ifBurnt(3, 13, 2), 9);
        Check.due("ifBurnt(3, 13, 0)", y.ifBurnt(3, 13, 0), 8);
    }

    private static void ifBurntReturns() {
        BulbShapes x = Boards.without(2, 0, 1);
        int[] would = {x.ifBurnt(3, 14, 0), x.ifBurnt(3, 14, 1), x.ifBurnt(3, 14, 2)};
        Check.due("lamp(3, 14, true)", x.lamp(3, 14, true), would[1]);
        Check.due("field(3, 5)", 10 - Integer.bitCount(x.field(3, 5)), would[0]);
        Check.due("field(3, 6)", x.field(3, 6), would[2]);
    }

    private static void ifBurntWithoutLamp() {
        BulbShapes x = new BulbShapes();
        for (int what = 0; what <= 2; what++) {
            int asked = what;
            for (int field : Boards.beyond(0, 3)) {
                Check.outOfBounds("ifBurnt(" + field + ", 0, " + what + ")", x, () -> x.ifBurnt(field, 0, asked));
            }
            for (int lamp : Boards.beyond(0, 14)) {
                Check.outOfBounds("ifBurnt(0, " + lamp + ", " + what + ")", x, () -> x.ifBurnt(0, lamp, asked));
                Check.outOfBounds("ifBurnt(3, " + lamp + ", " + what + ")", x, () -> x.ifBurnt(3, lamp, asked));
            }
        }
    }

    private static void ifBurntOutOfRange() {
        BulbShapes x = new BulbShapes();
        for (int what : Boards.beyond(0, 2)) {
            Check.illegalArgument("ifBurnt(0, 0, " + what + ")", x, () -> x.ifBurnt(0, 0, what));
            Check.illegalArgument("ifBurnt(3, 14, " + what + ")", x, () -> x.ifBurnt(3, 14, what));
        }
    }

    private static void promise20() {
        Sentences.in("Promise 20");
        Sentences.holds("Finds the worst lamp.", WouldBeBoundaries::worstLampChangesNothing);
        Sentences.holds("`field`: 0 to 3", WouldBeBoundaries::worstLampFields);
        Sentences.holds("Returns the lamp that works", WouldBeBoundaries::worstLampWorks);
        Sentences.holds("whose burning would leave most digits that cannot be shown",
                WouldBeBoundaries::mostThatCannotBeShown);
        Sentences.holds("of several the one with most digits that would have another shape",
                WouldBeBoundaries::ofSeveralMostChanges);
        Sentences.holds("or none instead of one, or one instead of none", WouldBeBoundaries::changesToAndFromNone);
        Sentences.holds("of these the lowest;", WouldBeBoundaries::ofTheseTheLowest);
        Sentences.holds("NONE if none works.", WouldBeBoundaries::noLampWorks);
        Sentences.holds("Throws `IndexOutOfBoundsException` if there is no such field",
                WouldBeBoundaries::worstLampWithoutField);
    }

    private static void worstLampChangesNothing() {
        BulbShapes x = Boards.without(4, 1);
        x.show(3, 0);
        Boards.dueNoChange(x, "worstLamp(3)", () -> x.worstLamp(3));
        Check.due("burnt lamps", x.count(1), 1);
    }

    private static void worstLampFields() {
        BulbShapes x = new BulbShapes();
        Boards.burnAll(x, 0);
        x.lamp(3, 2, true);
        int[] want = {NONE, 2, 2, x.worstLamp(3)};
        for (int f = 0; f < Boards.FIELDS; f++) {
            Check.due("worstLamp(" + f + ")", x.worstLamp(f), want[f]);
        }
        Check.due("worstLamp(3) is another one", want[3] != 2 && want[3] != NONE, true);
    }

    private static void worstLampWorks() {
        for (int left = 0; left < Boards.LAMPS; left++) {
            BulbShapes x = Boards.without(2);
            Boards.burnAll(x, 3);
            x.lamp(3, left, false);
            Check.due("worstLamp(3) with the lamp " + left + " alone", x.worstLamp(3), left);
        }
    }

    private static void mostThatCannotBeShown() {
        // without the lamp 8 two digits cannot be shown; without 11 or 12 more change, and all can be
        Check.due("worstLamp(3) with setting 0 at 3", Boards.without(3).worstLamp(3), 8);
    }

    private static void ofSeveralMostChanges() {
        // without 2, 5 or 14 three digits cannot be shown, and 4, 1 or 5 change
        Check.due("worstLamp(3) with setting 0 at 4", Boards.without(4).worstLamp(3), 14);
        Check.due("worstLamp(3) with setting 0 at 1", Boards.without(1).worstLamp(3), 14);
    }

    /** By what ifBurnt tells, on fields where digits lose and get shapes. */
    private static void changesToAndFromNone() {
        for (int strictness = 4; strictness <= 5; strictness++) {
            for (int burnt = 0; burnt < Boards.LAMPS; burnt++) {
                BulbShapes x = Boards.without(strictness, burnt);
                int worst = NONE;
                for (int lamp = 0; lamp < Boards.LAMPS; lamp++) {
                    if (lamp != burnt && (worst == NONE || rank(x, lamp) > rank(x, worst))) {
                        worst = lamp;
                    }
                }
                Check.due("worstLamp(3) without the lamp " + burnt, x.worstLamp(3), worst);
            }
        }
    }

    private static int rank(BulbShapes x, int lamp) {
        return 100 * x.ifBurnt(3, lamp, 0) + x.ifBurnt(3, lamp, 1);
    }

    private static void ofTheseTheLowest() {
        // 2, 8, 12 and 14 are alike; 0, 12 and 14 are
        Check.due("worstLamp(3) with setting 0 at 2", Boards.without(2).worstLamp(3), 2);
        Check.due("worstLamp(3) with setting 0 at 5", Boards.without(5).worstLamp(3), 0);
    }

    private static void noLampWorks() {
        BulbShapes x = Boards.without(2);
        Boards.burnAll(x, 3);
        Check.due("worstLamp(3) without lamps", x.worstLamp(3), NONE);
        x.lamp(3, 14, false);
        Check.due("worstLamp(3) with the lamp 14", x.worstLamp(3), 14);
        x.lamp(3, 14, true);
        x.lamp(3, 0, false);
        Check.due("worstLamp(3) with the lamp 0", x.worstLamp(3), 0);
    }

    private static void worstLampWithoutField() {
        BulbShapes x = new BulbShapes();
        for (int field : Boards.beyond(0, 3)) {
            Check.outOfBounds("worstLamp(" + field + ")", x, () -> x.worstLamp(field));
        }
    }

    private static void promise21() {
        Sentences.in("Promise 21");
        Sentences.holds("Tells how strict one could be.", WouldBeBoundaries::strictestChangesNothing);
        Sentences.holds("`field`: 0 to 3", WouldBeBoundaries::strictestFields);
        Sentences.holds("Returns the greatest setting 0, 1 to 5, with which all digits could be shown there;",
                WouldBeBoundaries::strictestIsTheGreatest);
        Sentences.holds("0 if there is none.", WouldBeBoundaries::strictestIsNone);
        Sentences.holds("Throws `IndexOutOfBoundsException` if there is no such field",
                WouldBeBoundaries::strictestWithoutField);
    }

    private static void strictestChangesNothing() {
        BulbShapes x = Boards.without(5, 1);
        x.show(3, 0);
        Boards.dueNoChange(x, "strictest(3)", () -> x.strictest(3));
        Check.due("setting(0)", x.setting(0), 5);
        Check.due("field(3, 5)", x.field(3, 5) == 0b1111111111, false);
    }

    private static void strictestFields() {
        BulbShapes x = new BulbShapes();
        x.lamp(1, 8, true);
        Boards.burn(x, 2, 9, 12);
        Boards.burnAll(x, 3);
        int[] want = {3, 2, 1, 0};
        for (int f = 0; f < Boards.FIELDS; f++) {
            Check.due("strictest(" + f + ")", x.strictest(f), want[f]);
        }
    }

    /** No set of burnt lamps lets all digits be shown with 4 or 5. */
    private static void strictestIsTheGreatest() {
        int[][] boards = {{3}, {3, 1}, {2, 8}, {1, 9, 12}, {0, 5, 6, 7, 8}};
        for (int strictness = 1; strictness <= 5; strictness++) {
            for (int[] board : boards) {
                BulbShapes x = Boards.without(strictness);
                for (int i = 1; i < board.length; i++) {
                    x.lamp(3, board[i], true);
                }
                Check.due("strictest(3) with setting 0 at " + strictness, x.strictest(3), board[0]);
                for (int value = 1; value <= 5; value++) {
                    x.set(0, value);
                    Check.due("all can be shown with " + value, x.field(3, 7) == NONE, value <= board[0]);
                }
            }
        }
    }

    private static void strictestIsNone() {
        BulbShapes x = Boards.without(1, 5, 6, 7, 8);
        Check.due("field(3, 7) with setting 0 at 1", x.field(3, 7) == NONE, false);
        Check.due("strictest(3)", x.strictest(3), 0);
        Boards.burnAll(x, 3);
        Check.due("strictest(3) without lamps", x.strictest(3), 0);
        x.mend(3);
        Check.due("strictest(3) of mended lamps", x.strictest(3), 3);
    }

    private static void strictestWithoutField() {
        BulbShapes x = new BulbShapes();
        for (int field : Boards.beyond(0, 3)) {
            Check.outOfBounds("strictest(" + field + ")", x, () -> x.strictest(field));
        }
    }

    private static void promise22() {
        Sentences.in("Promise 22");
        Sentences.holds("Tells when the next lamp burns.", WouldBeBoundaries::nextBurnChangesNothing);
        Sentences.holds("when the next lamp burns", WouldBeBoundaries::nextOfAllLamps);
        Sentences.holds("when the next lamp burns", WouldBeBoundaries::nextIsAnyLamp);
        Sentences.holds("Returns behind how many hours", WouldBeBoundaries::nextBurnHours);
        Sentences.holds("if only hours pass;", WouldBeBoundaries::nextBurnOfWornLamps);
        Sentences.holds("NONE if none ever does.", WouldBeBoundaries::noNextBurn);
    }

    private static void nextBurnChangesNothing() {
        BulbShapes x = Boards.living(1, 1);
        x.pass(60);
        Boards.dueNoChange(x, "nextBurn()", x::nextBurn);
        Check.due("hours that passed", x.count(0), 60);
        Check.due("hours of a lamp", x.lampOf(3, 1, 1), 60);
    }

    private static void nextOfAllLamps() {
        BulbShapes x = Boards.living(1, 1);
        x.pass(30);
        x.show(0, 7);
        Check.due("nextBurn() by field 3", x.nextBurn(), 70);
        x.show(3, NONE);
        Check.due("nextBurn() by field 0", x.nextBurn(), 100);
        x.pass(20);
        x.show(3, 7);
        // of field 3 the lamps 1 and 14 have 30 hours, and are lit again
        x.lamp(3, 1, false);
        Check.due("nextBurn() by the lamp 14 of field 3", x.nextBurn(), 70);
        x.lamp(3, 14, false);
        Check.due("nextBurn() by field 0 again", x.nextBurn(), 80);
    }

    private static void nextIsAnyLamp() {
        for (int field = 0; field < Boards.FIELDS; field++) {
            for (int lamp = 0; lamp < Boards.LAMPS; lamp++) {
                String call = "nextBurn() by the lamp " + lamp + " of field " + field;
                Check.due(call, Boards.withOneOld(field, lamp).nextBurn(), 50);
            }
        }
    }

    private static void nextBurnHours() {
        for (int life : new int[] {1, 2, 99}) {
            BulbShapes x = Boards.living(1, life);
            Check.due("nextBurn() at first", x.nextBurn(), 100 * life);
            Boards.pass(x, 100 * life - 1);
            Check.due("nextBurn() one hour ahead of it", x.nextBurn(), 1);
            Check.due("pass(1)", x.pass(1), 8);
            Check.due("nextBurn() of the lamps lit then", x.nextBurn(), 100 * life);
            BulbShapes y = Boards.living(1, life);
            y.pass(1);
            Check.due("nextBurn() behind one hour", y.nextBurn(), 100 * life - 1);
        }
    }

    private static void nextBurnOfWornLamps() {
        BulbShapes x = Boards.living(1, 0);
        x.pass(101);
        x.set(1, 1);
        Check.due("nextBurn() of lamps with 101 hours, lit", x.nextBurn(), 1);
        x.show(3, NONE);
        Check.due("nextBurn() of lamps with 101 hours, not lit", x.nextBurn(), 1);
        x.set(1, 2);
        Check.due("nextBurn() of lamps with 101 hours of 200, not lit", x.nextBurn(), NONE);
        x.show(3, 1);
        Check.due("nextBurn() of lamps with 101 hours of 200, lit", x.nextBurn(), 99);
        BulbShapes y = Boards.living(1, 0);
        y.pass(100);
        y.show(3, NONE);
        y.set(1, 1);
        Check.due("nextBurn() of lamps with 100 hours, not lit", y.nextBurn(), 1);
        y.undo();
        y.undo();
        y.undo();
        y.pass(99);
        y.show(3, NONE);
        y.set(1, 1);
        Check.due("nextBurn() of lamps with 99 hours, not lit", y.nextBurn(), NONE);
    }

    private static void noNextBurn() {
        BulbShapes x = new BulbShapes();
        Check.due("nextBurn() of a new board", x.nextBurn(), NONE);
        x.set(1, 1);
        Check.due("nextBurn() of a dark board", x.nextBurn(), NONE);
        x.show(3, 1);
        x.set(1, 0);
        Check.due("nextBurn() without a life", x.nextBurn(), NONE);
        Boards.pass(x, 1000);
        Check.due("nextBurn() without a life, behind 1000 hours", x.nextBurn(), NONE);
        BulbShapes y = Boards.living(8, 1);
        y.set(0, 4);
        Check.due("nextBurn() of a digit that cannot be shown", y.nextBurn(), NONE);
        BulbShapes z = Boards.living(1, 1);
        z.pass(100);
        z.show(3, NONE);
        Check.due("nextBurn() of lamps that are burnt already", z.nextBurn(), NONE);
        z.show(3, 0);
        Boards.burnAll(z, 3);
        Check.due("nextBurn() of a shape without lamps", z.nextBurn(), NONE);
    }

    private static void promise23() {
        Sentences.in("Promise 23");
        Sentences.holds("Returns how clear the board is.", WouldBeBoundaries::clarityChangesNothing);
        Sentences.holds("Returns the digits that can be shown, of all fields, as a double, divided by 40.0.",
                WouldBeBoundaries::clarityIsAShare);
    }

    private static void clarityChangesNothing() {
        BulbShapes x = Boards.without(4, 1);
        Boards.dueNoChange(x, "clarity()", x::clarity);
    }

    private static void clarityIsAShare() {
        for (int digits = 4; digits <= 40; digits++) {
            Check.due("clarity() with " + digits + " digits", boardWith(digits).clarity(), digits / 40.0);
        }
    }

    private static BulbShapes boardWith(int digits) {
        int way = digits >= 32 ? 0 : digits >= 29 ? 1 : 2;
        BulbShapes x = new BulbShapes();
        x.set(0, way + 3);
        int more = digits - Boards.FIELDS * LEAST_DIGITS[way];
        for (int f = 0; f < Boards.FIELDS; f++) {
            int here = Math.min(more, BURNT[way].length - 1);
            Boards.burn(x, f, BURNT[way][here]);
            more -= here;
        }
        return x;
    }

    private static void promise24() {
        Sentences.in("Promise 24");
        Sentences.holds("Computes a hash of the whole state.", WouldBeBoundaries::digestChangesNothing);
        Sentences.holds("The hash starts at 2801.", WouldBeBoundaries::digestOfANewBoard);
        Sentences.holds("For each value v of the following list, in order, the hash becomes 31 * hash + v",
                WouldBeBoundaries::digestInOrder);
        Sentences.holds("in long arithmetic with overflow.", WouldBeBoundaries::digestOverflows);
        Sentences.holds("The values are: count(0) to count(7);", WouldBeBoundaries::digestOfCounts);
        Sentences.holds("the settings 0 and 1;", WouldBeBoundaries::digestOfSettings);
        Sentences.holds("for each field its properties 0 to 7, its table (each digit with 0 to 2), its lamps (each "
                + "with 0 to 3), worstLamp, strictest, and read of 21845;", WouldBeBoundaries::digestOfFields);
        Sentences.holds("nextBurn;", WouldBeBoundaries::digestOfNextBurn);
        Sentences.holds("the bits of clarity (as Double.doubleToLongBits);", WouldBeBoundaries::digestOfClarity);
        Sentences.holds("the length of the buffer and each of its character codes.",
                WouldBeBoundaries::digestOfTheBuffer);
        Sentences.holds("Returns the hash.", WouldBeBoundaries::digestReturns);
    }

    private static void digestChangesNothing() {
        BulbShapes x = Boards.living(1, 1);
        x.pass(40);
        Check.write(x, "0-a");
        Boards.dueNoChange(x, "digest()", x::digest);
        Check.due("saved states", x.count(7), 3);
        Check.due("lamps()", x.lamps(), 1);
    }

    /** By the looks, which hold by their own promises, and without a bound: cut to a long at the end. */
    private static long hashOf(BulbShapes x, String buffer) {
        BigInteger hash = BigInteger.valueOf(2801);
        for (int what = 0; what < 8; what++) {
            hash = with(hash, x.count(what));
        }
        hash = with(with(hash, x.setting(0)), x.setting(1));
        for (int f = 0; f < Boards.FIELDS; f++) {
            for (int what = 0; what < 8; what++) {
                hash = with(hash, x.field(f, what));
            }
            for (int i = 0; i < 3 * Boards.DIGITS; i++) {
                hash = with(hash, x.table(f, i / 3, i % 3));
            }
            for (int i = 0; i < 4 * Boards.LAMPS; i++) {
                hash = with(hash, x.lampOf(f, i / 4, i % 4));
            }
            hash = with(with(with(hash, x.worstLamp(f)), x.strictest(f)), x.read(f, 21845));
        }
        hash = with(with(hash, x.nextBurn()), Double.doubleToLongBits(x.clarity()));
        hash = with(hash, buffer.length());
        for (char c : buffer.toCharArray()) {
            hash = with(hash, c);
        }
        return hash.longValue();
    }

    private static BigInteger with(BigInteger hash, long value) {
        return hash.multiply(BigInteger.valueOf(31)).add(BigInteger.valueOf(value));
    }

    private static void dueDigest(String of, BulbShapes x, String buffer) {
        Check.due("digest() of " + of, x.digest(), hashOf(x, buffer));
    }

    private static void digestOfANewBoard() {
        dueDigest("a new board", new BulbShapes(), "");
    }

    private static void digestInOrder() {
        BulbShapes x = new BulbShapes();
        x.number(12);
        BulbShapes y = new BulbShapes();
        y.number(21);
        dueDigest("12", x, "");
        dueDigest("21", y, "");
        Check.due("digest() of 12 and 21 are alike", x.digest() == y.digest(), false);
    }

    /** The hash of each board leaves the range of long hundreds of times; its own sign may be any. */
    private static void digestOverflows() {
        boolean isBelow = false;
        boolean isAbove = false;
        for (int digit = 0; digit < Boards.DIGITS; digit++) {
            BulbShapes x = new BulbShapes();
            x.show(3, digit);
            long digest = x.digest();
            Check.due("digest() of " + digit, digest, hashOf(x, ""));
            isBelow |= digest < -1L << 60;
            isAbove |= digest > 1L << 60;
        }
        Check.due("there are digests far below 0 and far above", isBelow && isAbove, true);
    }

    private static void digestOfCounts() {
        BulbShapes x = Boards.living(1, 1);
        x.show(0, 8);
        x.pass(100);
        x.set(0, 5);
        dueDigest("a board on which hours passed", x, "");
        BulbShapes y = new BulbShapes();
        y.pass(1);
        BulbShapes z = new BulbShapes();
        z.pass(2);
        // count(0) alone is another one, and 419 values follow it
        long difference = z.digest() - y.digest();
        long power = 1;
        for (int i = 0; i < 8 - 1 + 2 + 4 * (8 + 30 + 60 + 3) + 1 + 1 + 1; i++) {
            power *= 31;
        }
        Check.due("the difference by one hour", difference, power);
    }

    private static void digestOfSettings() {
        for (int value = 1; value <= 5; value++) {
            BulbShapes x = new BulbShapes();
            x.set(0, value);
            x.set(1, 100 - value);
            dueDigest("a board with setting 0 at " + value, x, "");
        }
    }

    private static void digestOfFields() {
        BulbShapes x = new BulbShapes();
        for (int f = 0; f < Boards.FIELDS; f++) {
            for (int lamp = f; lamp < Boards.LAMPS; lamp += 3 + f) {
                x.lamp(f, lamp, true);
            }
        }
        x.number(1741);
        x.pass(33);
        dueDigest("a board without some lamps", x, "");
        for (int last = 0; last < Boards.LAMPS; last++) {
            BulbShapes y = new BulbShapes();
            y.set(0, 3);
            y.number(1807);
            for (int lamp = 0; lamp <= last; lamp++) {
                Boards.burn(y, 1, lamp);
                Boards.burn(y, 3, Boards.LAMPS - 1 - lamp);
            }
            dueDigest("a board without lamps up to " + last, y, "");
        }
    }

    private static void digestOfNextBurn() {
        BulbShapes x = Boards.living(1, 99);
        dueDigest("a board with the longest life", x, "");
        BulbShapes y = new BulbShapes();
        y.set(1, 99);
        dueDigest("a dark board with the longest life", y, "");
    }

    private static void digestOfClarity() {
        for (int digits = 4; digits <= 40; digits++) {
            dueDigest("a board with " + digits + " digits", boardWith(digits), "");
        }
    }

    private static void digestOfTheBuffer() {
        for (String buffer : new String[] {"", "!", "~", "0-abc;1+", "!~".repeat(30)}) {
            BulbShapes x = new BulbShapes();
            Check.write(x, buffer);
            dueDigest("the buffer '" + buffer + "'", x, buffer);
        }
        BulbShapes x = new BulbShapes();
        long empty = x.digest();
        x.append('!');
        Check.due("digest() behind append('!')", x.digest(), 31 * (empty + 1) + 33);
        x.clearBuffer();
        Check.due("digest() behind clearBuffer()", x.digest(), empty);
    }

    private static void digestReturns() {
        BulbShapes x = new BulbShapes();
        BulbShapes y = new BulbShapes();
        x.number(1807);
        y.number(1807);
        Check.due("digest() of like boards", x.digest(), y.digest());
        x.pass(1);
        y.pass(2);
        Check.due("digest() of unlike boards is alike", x.digest() == y.digest(), false);
    }
}
