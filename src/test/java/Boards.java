/** Boards to begin with, and what all boundary tests look at. */
final class Boards {
    static final int NONE = BulbShapes.NONE;
    static final int FIELDS = 4;
    static final int LAMPS = 15;
    static final int DIGITS = 10;
    static final int MOST_SAVED = 6;

    private Boards() {
    }

    /** One beyond each end of a range, and the farthest ones. */
    static int[] beyond(int first, int last) {
        return new int[] {first - 1, last + 1, Integer.MIN_VALUE, Integer.MAX_VALUE};
    }

    static int bit(int lamp) {
        return 1 << (LAMPS - 1 - lamp);
    }

    static void burn(BulbShapes x, int field, int... lamps) {
        for (int lamp : lamps) {
            x.lamp(field, lamp, true);
        }
    }

    static void burnAll(BulbShapes x, int field) {
        for (int lamp = 0; lamp < LAMPS; lamp++) {
            x.lamp(field, lamp, true);
        }
    }

    /** A new board with a value of setting 0, and field 3 without these lamps. */
    static BulbShapes without(int strictness, int... lamps) {
        BulbShapes x = new BulbShapes();
        x.set(0, strictness);
        burn(x, 3, lamps);
        return x;
    }

    /** A new board that shows a digit in field 3 whose lamps live for 100 times life hours. */
    static BulbShapes living(int digit, int life) {
        BulbShapes x = new BulbShapes();
        x.show(3, digit);
        x.set(1, life);
        return x;
    }

    /** A new board where lamps live for 100 hours and one lamp, which is lit, has 50 of them, the others none. */
    static BulbShapes withOneOld(int field, int lamp) {
        BulbShapes x = new BulbShapes();
        x.set(0, 1);
        x.set(1, 1);
        // the 8 has all lamps but these two, and the 1 has these
        x.show(field, lamp == 4 || lamp == 10 ? 1 : 8);
        x.pass(50);
        for (int other = 0; other < LAMPS; other++) {
            if (other != lamp) {
                x.lamp(field, other, false);
            }
        }
        return x;
    }

    /** Lets any number of hours pass, by calls of at most 500; returns how many lamps burn. */
    static int pass(BulbShapes x, int hours) {
        int burning = 0;
        for (int left = hours; left > 0; left -= 500) {
            burning += x.pass(Math.min(left, 500));
        }
        return burning;
    }

    /** A board with as many saved states as there can be, each with another number. */
    static BulbShapes full() {
        BulbShapes x = new BulbShapes();
        for (int number = 0; number < MOST_SAVED; number++) {
            x.number(number);
        }
        return x;
    }

    static void dueDigits(BulbShapes x, int... digits) {
        for (int f = 0; f < FIELDS; f++) {
            Check.due("field(" + f + ", 0)", x.field(f, 0), digits[f]);
        }
    }

    static void dueShapes(String when, BulbShapes x, int field, int... shapes) {
        for (int digit = 0; digit < DIGITS; digit++) {
            Check.due("table(" + field + ", " + digit + ", 0) " + when, x.table(field, digit, 0), shapes[digit]);
        }
    }

    static void dueEntry(BulbShapes x, int field, int digit, int shape, int shown, int missing) {
        int[] want = {shape, shown, missing};
        for (int what = 0; what < want.length; what++) {
            String call = "table(" + field + ", " + digit + ", " + what + ")";
            Check.due(call, x.table(field, digit, what), want[what]);
        }
    }

    static void dueHours(BulbShapes x, int field, int mask, int hours) {
        for (int lamp = 0; lamp < LAMPS; lamp++) {
            int want = (mask & bit(lamp)) == 0 ? 0 : hours;
            Check.due("lampOf(" + field + ", " + lamp + ", 1)", x.lampOf(field, lamp, 1), want);
        }
    }

    /** The call saves one state, and undo brings back all that the hash is made of. */
    static void dueUndoable(BulbShapes x, String name, Check.Call call) {
        int saved = x.count(7);
        long before = x.digest();
        call.answer();
        Check.due("saved states behind " + name, x.count(7), saved + 1);
        Check.due("undo() of " + name, x.undo(), saved);
        Check.due("digest() behind undo of " + name, x.digest(), before);
    }

    /** The call answers, and neither changes anything nor saves a state. */
    static void dueNoChange(BulbShapes x, String name, Check.Call call) {
        long before = x.digest();
        Check.due(name + " answers", Check.told(call).startsWith("throws."), false);
        Check.due("digest() behind " + name, x.digest(), before);
    }
}
