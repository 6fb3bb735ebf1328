/** Promises 8 to 12: the buffer, lamps as a text, and undo. */
public final class TextsTest {
    private static final int NONE = BulbShapes.NONE;

    public static void main(String[] args) {
        appendFillsTheBuffer();
        appendThrows();
        clearBufferTellsTheLength();
        firstErrorIsFound();
        lampsBurnsAndMends();
        lampsThrowsUnlessComplete();
        undoRestoresAll();
        undoKeepsTheBuffer();
        undoKeepsSixStates();
        Check.end();
    }

    private static void appendFillsTheBuffer() {
        BulbShapes x = new BulbShapes();
        for (int length = 1; length <= 60; length++) {
            Check.due("append(33), " + length, x.append(length % 2 == 0 ? 33 : 126), length);
        }
        Check.due("saved states: append is not undoable", x.count(7), 0);
        Check.illegalState("append(33) behind 60", x, () -> x.append(33));
        Check.illegalArgument("append(32) behind 60", x, () -> x.append(32));
        Check.illegalArgument("append(127) behind 60", x, () -> x.append(127));
        Check.due("clearBuffer()", x.clearBuffer(), 60);
        Check.due("append(33) behind clearBuffer()", x.append(33), 1);
    }

    private static void appendThrows() {
        BulbShapes x = new BulbShapes();
        for (int code : new int[] {32, 127, 0, -1, 65536 + 48, Integer.MIN_VALUE, Integer.MAX_VALUE}) {
            Check.illegalArgument("append(" + code + ")", x, () -> x.append(code));
        }
    }

    private static void clearBufferTellsTheLength() {
        BulbShapes x = new BulbShapes();
        Check.due("clearBuffer() of none", x.clearBuffer(), 0);
        Check.write(x, "0-a");
        Check.due("clearBuffer()", x.clearBuffer(), 3);
        Check.due("clearBuffer() again", x.clearBuffer(), 0);
        Check.due("saved states: clearBuffer is not undoable", x.count(7), 0);
    }

    private static void firstErrorIsFound() {
        dueError("", 0);
        dueError("0", 1);
        dueError("3+", 2);
        dueError("3+o", 3);
        dueError("4", 0);
        dueError("/", 0);
        dueError("-", 0);
        dueError(";", 0);
        dueError("00", 1);
        dueError("0a", 1);
        dueError("0*", 1);
        dueError("0,", 1);
        dueError("0-p", 2);
        dueError("0-`", 2);
        dueError("0-A", 2);
        dueError("0-;", 2);
        dueError("0-+", 2);
        dueError("0-0", 2);
        dueError("0-aa", 4);
        dueError("0-ap", 3);
        dueError("0-a0", 3);
        dueError("0-a+", 3);
        dueError("0-a:", 3);
        dueError("0-a;", 4);
        dueError("0-a;;", 4);
        dueError("0-a;a", 4);
        dueError("0-a;3+abcdefghijklmno;1-b", 25);
        dueError("0-a;9-b", 4);
        dueError("x0-a", 0);
        String longest = "0-abcdefghijklmnoabcdefghijklmnoabcdefghijklmnoabcdefghijklm";
        dueError(longest, 60);
        dueError(longest.substring(0, 59) + ";", 60);
        dueError(longest.substring(0, 59) + "!", 59);
    }

    private static void dueError(String text, int want) {
        BulbShapes x = new BulbShapes();
        Check.write(x, text);
        Check.due("firstError() of " + text, x.firstError(), want);
        Check.due("firstError() leaves the buffer", x.clearBuffer(), text.length());
    }

    private static void lampsBurnsAndMends() {
        BulbShapes x = new BulbShapes();
        x.number(8888);
        x.pass(9);
        x.lamp(2, 0, true);
        Check.write(x, "0-ao;1-b;1+b;2+ad;3-cc");
        Check.due("lamps()", x.lamps(), 3);
        Check.due("lamp 0 of field 0", x.lampOf(0, 0, 0), 1);
        Check.due("lamp 14 of field 0", x.lampOf(0, 14, 0), 1);
        Check.due("lamp 1 of field 1", x.lampOf(1, 1, 0), 0);
        Check.due("hours of a lamp that burnt and was mended", x.lampOf(1, 1, 1), 0);
        Check.due("hours of a lamp that was not told", x.lampOf(1, 3, 1), 9);
        Check.due("lamp 0 of field 2", x.lampOf(2, 0, 0), 0);
        Check.due("hours of a lamp that was mended though it worked", x.lampOf(2, 3, 1), 0);
        Check.due("lamp 2 of field 3", x.lampOf(3, 2, 0), 1);
        Check.due("the buffer", x.clearBuffer(), 0);
        Check.due("burnt by their hours", x.count(5), 0);
        Check.due("saved states: it is one call", x.count(7), 4);
        x.undo();
        Check.due("burnt lamps behind undo", x.count(1), 1);
        Check.due("hours behind undo", x.lampOf(1, 1, 1), 9);
        Check.due("the buffer behind undo", x.clearBuffer(), 0);
        x.mend(2);
        Check.write(x, "1-cfh;1+h");
        x.lamps();
        Check.due("shape of the 0 behind lamps()", x.table(1, 0, 0), 1);
        Check.due("shape of the 8 behind lamps()", x.table(1, 8, 0), 2);
    }

    private static void lampsThrowsUnlessComplete() {
        for (String text : new String[] {"", "0", "0-", "0-a;", "0-a;1", "0-a;1+", "4-a", "0-p", "0-a+", "a", "0-ax"}) {
            BulbShapes x = new BulbShapes();
            Check.write(x, text);
            Check.illegalArgument("lamps() of " + text, x, x::lamps);
            Check.due("the buffer behind lamps() of " + text, x.clearBuffer(), text.length());
        }
    }

    private static void undoRestoresAll() {
        BulbShapes x = new BulbShapes();
        x.number(1807);
        x.set(0, 3);
        x.set(1, 1);
        x.lamp(0, 7, true);
        x.pass(120);
        long want = x.digest();
        Check.due("saved states", x.count(7), 5);
        x.pass(300);
        x.undo();
        Check.due("digest() behind pass and undo", x.digest(), want);
        x.lamp(1, 1, true);
        x.undo();
        Check.due("digest() behind lamp and undo", x.digest(), want);
        x.mend(0);
        x.undo();
        Check.due("digest() behind mend and undo", x.digest(), want);
        x.set(0, 5);
        x.undo();
        Check.due("digest() behind set and undo", x.digest(), want);
        x.number(3);
        x.undo();
        Check.due("digest() behind number and undo", x.digest(), want);
        x.show(2, NONE);
        x.undo();
        Check.due("digest() behind show and undo", x.digest(), want);
        Check.write(x, "0+h;3-abc");
        x.lamps();
        x.undo();
        Check.due("digest() behind lamps and undo", x.digest(), want);
    }

    private static void undoKeepsTheBuffer() {
        BulbShapes x = new BulbShapes();
        Check.write(x, "0-");
        x.show(0, 1);
        Check.write(x, "a");
        x.undo();
        Check.due("firstError() behind undo", x.firstError(), 3);
        Check.due("lamps() behind undo", x.lamps(), 1);
    }

    private static void undoKeepsSixStates() {
        BulbShapes x = new BulbShapes();
        for (int number = 0; number < 9; number++) {
            x.number(number);
            Check.due("saved states behind " + number, x.count(7), Math.min(number + 1, 6));
        }
        for (int left = 5; left >= 0; left--) {
            Check.due("undo()", x.undo(), left);
            Check.due("number behind undo()", x.count(6), left + 2);
        }
        Check.illegalState("undo() with none left", x, x::undo);
        x.number(7);
        Check.due("saved states anew", x.count(7), 1);
        Check.due("undo() anew", x.undo(), 0);
        Check.due("number behind it", x.count(6), 2);
    }
}
