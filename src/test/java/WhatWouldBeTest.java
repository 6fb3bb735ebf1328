/** Promises 19 to 23: what would be, which changes nothing; of promise 24 WouldBeBoundaries tells. */
public final class WhatWouldBeTest {
    private static final int NONE = BulbShapes.NONE;
    private static final int LAMPS = 15;
    private static final int DIGITS = 10;
    private static final int[] WRONG_FIELDS = {-1, 4, Integer.MIN_VALUE, Integer.MAX_VALUE};
    private static final int[] WRONG_LAMPS = {-1, 15, Integer.MIN_VALUE, Integer.MAX_VALUE};

    public static void main(String[] args) {
        ifBurntTellsWhatBurningDoes();
        ifBurntOfABurntLamp();
        ifBurntThrows();
        worstLampLeavesMostDigitsHidden();
        worstLampOfABurntField();
        worstLampThrows();
        strictestIsTheGreatestSetting();
        strictestThrows();
        nextBurnTellsTheHours();
        nextBurnIsNone();
        clarityIsAShare();
        Check.end();
    }

    private static void ifBurntTellsWhatBurningDoes() {
        for (int strictness = 1; strictness <= 5; strictness++) {
            for (int lamp = 0; lamp < LAMPS; lamp++) {
                BulbShapes x = new BulbShapes();
                x.set(0, strictness);
                x.lamp(1, 6, true);
                x.lamp(1, 13, true);
                long before = x.digest();
                int hidden = x.ifBurnt(1, lamp, 0);
                int changes = x.ifBurnt(1, lamp, 1);
                int difference = x.ifBurnt(1, lamp, 2);
                Check.due("digest() behind ifBurnt", x.digest(), before);
                String call = "ifBurnt(1, " + lamp + ", _) with setting 0 at " + strictness;
                Check.due(call + ": changes", changes, x.lamp(1, lamp, true));
                Check.due(call + ": hidden digits", hidden, DIGITS - Integer.bitCount(x.field(1, 5)));
                Check.due(call + ": difference", difference, x.field(1, 6));
            }
        }
        BulbShapes x = new BulbShapes();
        Check.due("ifBurnt(1, 7, 0)", x.ifBurnt(1, 7, 0), 0);
        Check.due("ifBurnt(1, 7, 1)", x.ifBurnt(1, 7, 1), 2);
        Check.due("ifBurnt(1, 7, 2)", x.ifBurnt(1, 7, 2), 2);
    }

    private static void ifBurntOfABurntLamp() {
        BulbShapes x = new BulbShapes();
        for (int lamp = 0; lamp < LAMPS; lamp++) {
            x.lamp(0, lamp, true);
        }
        Check.due("ifBurnt(0, 3, 0)", x.ifBurnt(0, 3, 0), 9);
        Check.due("ifBurnt(0, 3, 1)", x.ifBurnt(0, 3, 1), 0);
        Check.due("ifBurnt(0, 3, 2)", x.ifBurnt(0, 3, 2), NONE);
    }

    private static void ifBurntThrows() {
        BulbShapes x = new BulbShapes();
        for (int field : WRONG_FIELDS) {
            Check.outOfBounds("ifBurnt(" + field + ", 0, 0)", x, () -> x.ifBurnt(field, 0, 0));
            Check.outOfBounds("ifBurnt(" + field + ", 0, 3)", x, () -> x.ifBurnt(field, 0, 3));
        }
        for (int lamp : WRONG_LAMPS) {
            Check.outOfBounds("ifBurnt(0, " + lamp + ", 0)", x, () -> x.ifBurnt(0, lamp, 0));
            Check.outOfBounds("ifBurnt(0, " + lamp + ", -1)", x, () -> x.ifBurnt(0, lamp, -1));
        }
        for (int what : new int[] {-1, 3, Integer.MIN_VALUE, Integer.MAX_VALUE}) {
            Check.illegalArgument("ifBurnt(0, 0, " + what + ")", x, () -> x.ifBurnt(0, 0, what));
        }
    }

    private static void worstLampLeavesMostDigitsHidden() {
        Check.due("worstLamp(0) of whole lamps", new BulbShapes().worstLamp(0), 2);
        for (int strictness = 1; strictness <= 5; strictness++) {
            for (int burnt = -1; burnt < LAMPS; burnt++) {
                BulbShapes x = new BulbShapes();
                x.set(0, strictness);
                if (burnt >= 0) {
                    x.lamp(1, burnt, true);
                }
                long before = x.digest();
                Check.due("worstLamp(1) without " + burnt + ", " + strictness, x.worstLamp(1), worstByIfBurnt(x, 1));
                Check.due("digest() behind worstLamp", x.digest(), before);
            }
        }
    }

    private static int worstByIfBurnt(BulbShapes x, int field) {
        int worst = NONE;
        for (int lamp = LAMPS - 1; lamp >= 0; lamp--) {
            if (x.lampOf(field, lamp, 0) == 0 && (worst == NONE || weight(x, field, lamp) >= weight(x, field, worst))) {
                worst = lamp;
            }
        }
        return worst;
    }

    private static int weight(BulbShapes x, int field, int lamp) {
        return 100 * x.ifBurnt(field, lamp, 0) + x.ifBurnt(field, lamp, 1);
    }

    private static void worstLampOfABurntField() {
        BulbShapes x = new BulbShapes();
        for (int lamp = 0; lamp < LAMPS; lamp++) {
            if (lamp != 11) {
                x.lamp(2, lamp, true);
            }
        }
        Check.due("worstLamp(2) with one left", x.worstLamp(2), 11);
        x.lamp(2, 11, true);
        Check.due("worstLamp(2) with none left", x.worstLamp(2), NONE);
        Check.due("worstLamp(1)", x.worstLamp(1), 2);
    }

    private static void worstLampThrows() {
        BulbShapes x = new BulbShapes();
        for (int field : WRONG_FIELDS) {
            Check.outOfBounds("worstLamp(" + field + ")", x, () -> x.worstLamp(field));
        }
    }

    private static void strictestIsTheGreatestSetting() {
        BulbShapes x = new BulbShapes();
        Check.due("strictest(0) of whole lamps", x.strictest(0), 3);
        x.set(0, 5);
        Check.due("strictest(0) with setting 0 at 5", x.strictest(0), 3);
        for (int lamp = 0; lamp < LAMPS; lamp++) {
            x.lamp(3, lamp, true);
            long before = x.digest();
            int strictest = x.strictest(3);
            Check.due("digest() behind strictest", x.digest(), before);
            Check.due("strictest(3) without lamps up to " + lamp, strictest, strictestBySetting(x, 3));
        }
        Check.due("strictest(3) without lamps", x.strictest(3), 0);
        Check.due("strictest(2)", x.strictest(2), 3);
    }

    private static int strictestBySetting(BulbShapes x, int field) {
        int greatest = 0;
        for (int strictness = 1; strictness <= 5; strictness++) {
            x.set(0, strictness);
            if (x.field(field, 5) == 1023) {
                greatest = strictness;
            }
            x.undo();
        }
        return greatest;
    }

    private static void strictestThrows() {
        BulbShapes x = new BulbShapes();
        for (int field : WRONG_FIELDS) {
            Check.outOfBounds("strictest(" + field + ")", x, () -> x.strictest(field));
        }
    }

    private static void nextBurnTellsTheHours() {
        BulbShapes x = new BulbShapes();
        x.show(0, 1);
        x.set(1, 2);
        Check.due("nextBurn() of new lamps", x.nextBurn(), 200);
        x.pass(150);
        Check.due("nextBurn() behind 150 hours", x.nextBurn(), 50);
        x.show(1, 1);
        Check.due("nextBurn() with a field of new lamps", x.nextBurn(), 50);
        x.show(0, NONE);
        Check.due("nextBurn() of the new lamps alone", x.nextBurn(), 200);
        x.set(1, 1);
        Check.due("nextBurn() of lamps, not lit, that are worn already", x.nextBurn(), 1);
        x.set(1, 99);
        Check.due("nextBurn() of the longest life", x.nextBurn(), 9900);
        x.show(0, 1);
        x.set(1, 1);
        Check.due("nextBurn() of lit lamps that are worn already", x.nextBurn(), 1);
        Check.due("pass(1)", x.pass(1), 8);
        Check.due("nextBurn() behind it", x.nextBurn(), 99);
    }

    private static void nextBurnIsNone() {
        BulbShapes x = new BulbShapes();
        x.set(1, 1);
        Check.due("nextBurn() of a dark board", x.nextBurn(), NONE);
        x.show(0, 1);
        x.pass(50);
        x.show(0, NONE);
        Check.due("nextBurn() of lamps that are not lit", x.nextBurn(), NONE);
        x.show(0, 1);
        x.set(1, 0);
        Check.due("nextBurn() without a life", x.nextBurn(), NONE);
        x.pass(100);
        x.set(1, 1);
        x.pass(1);
        x.show(0, NONE);
        Check.due("nextBurn() of burnt lamps", x.nextBurn(), NONE);
    }

    private static void clarityIsAShare() {
        BulbShapes x = new BulbShapes();
        Check.due("clarity() of whole lamps", x.clarity(), 1.0);
        x.set(0, 5);
        Check.due("clarity() with setting 0 at 5", x.clarity(), 24 / 40.0);
        for (int lamp = 0; lamp < LAMPS; lamp++) {
            x.lamp(0, lamp, true);
        }
        Check.due("clarity() without field 0", x.clarity(), 19 / 40.0);
        x.set(0, 2);
        Check.due("clarity() without field 0, setting 0 at 2", x.clarity(), 31 / 40.0);
    }
}
