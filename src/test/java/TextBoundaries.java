/** Promises 8 to 12: the buffer, lamps as a text, and undo. */
final class TextBoundaries {
    private static final int NONE = Boards.NONE;

    private TextBoundaries() {
    }

    static void run() {
        promise8();
        promise9();
        promise10();
        promise11();
        promise12();
    }

    private static void promise8() {
        Sentences.in("Promise 8");
        Sentences.holds("Appends a character to the buffer.", TextBoundaries::appendAppends);
        Sentences.holds("`code`: the character code, 33 to 126", TextBoundaries::appendCodes);
        Sentences.holds("Returns the new length of the buffer.", TextBoundaries::appendReturns);
        Sentences.holds("Throws `IllegalArgumentException` if code is not 33 to 126", TextBoundaries::appendOutOfRange);
        Sentences.holds("Throws `IllegalStateException` if the buffer has 60 characters", TextBoundaries::appendFull);
    }

    private static void appendAppends() {
        BulbShapes x = new BulbShapes();
        Check.write(x, "3-ob");
        x.lamps();
        Check.due("lampOf(3, 14, 0)", x.lampOf(3, 14, 0), 1);
        Check.due("lampOf(3, 1, 0)", x.lampOf(3, 1, 0), 1);
        Check.write(x, "~");
        Check.due("saved states: append is not undoable", x.count(7), 1);
    }

    private static void appendCodes() {
        BulbShapes x = new BulbShapes();
        Check.due("append(33)", x.append(33), 1);
        Check.due("append(126)", x.append(126), 2);
        for (int code = 33; code <= 126; code++) {
            BulbShapes y = new BulbShapes();
            Check.due("append(" + code + ")", y.append(code), 1);
        }
    }

    private static void appendReturns() {
        BulbShapes x = new BulbShapes();
        for (int length = 1; length <= 60; length++) {
            Check.due("append(33)", x.append(33), length);
        }
        x.clearBuffer();
        Check.due("append(33) behind clearBuffer()", x.append(33), 1);
    }

    private static void appendOutOfRange() {
        BulbShapes x = new BulbShapes();
        for (int code : Boards.beyond(33, 126)) {
            Check.illegalArgument("append(" + code + ")", x, () -> x.append(code));
        }
        for (int code : new int[] {0, -1, 65536 + 48, 256 + 48}) {
            Check.illegalArgument("append(" + code + ")", x, () -> x.append(code));
        }
    }

    private static void appendFull() {
        BulbShapes x = new BulbShapes();
        Check.write(x, "0".repeat(59));
        Check.due("append of the 60th", x.append('0'), 60);
        Check.illegalState("append(33)", x, () -> x.append(33));
        Check.illegalState("append(126)", x, () -> x.append(126));
        Check.due("clearBuffer()", x.clearBuffer(), 60);
        Check.due("append(33) behind clearBuffer()", x.append(33), 1);
    }

    private static void promise9() {
        Sentences.in("Promise 9");
        Sentences.holds("Clears the buffer.", TextBoundaries::clearBufferClears);
        Sentences.holds("Returns the length that it had.", TextBoundaries::clearBufferReturns);
    }

    private static void clearBufferClears() {
        BulbShapes x = new BulbShapes();
        Check.write(x, "0-a");
        x.clearBuffer();
        Check.illegalArgument("lamps() behind clearBuffer()", x, x::lamps);
        Check.write(x, "1-b");
        Check.due("lamps()", x.lamps(), 1);
        Check.due("lampOf(0, 0, 0)", x.lampOf(0, 0, 0), 0);
        Check.due("lampOf(1, 1, 0)", x.lampOf(1, 1, 0), 1);
        x.clearBuffer();
        Check.due("saved states: clearBuffer is not undoable", x.count(7), 1);
    }

    private static void clearBufferReturns() {
        BulbShapes x = new BulbShapes();
        Check.due("clearBuffer() of none", x.clearBuffer(), 0);
        Check.write(x, "0");
        Check.due("clearBuffer() of one", x.clearBuffer(), 1);
        Check.due("clearBuffer() again", x.clearBuffer(), 0);
        Check.write(x, "x".repeat(60));
        Check.due("clearBuffer() of a full buffer", x.clearBuffer(), 60);
    }

    private static void promise10() {
        Sentences.in("Promise 10");
        Sentences.holds("Finds the first syntax error of the buffer.", TextBoundaries::firstErrorIsTheFirst);
        Sentences.holds("Returns the index of the first character that is a syntax error;",
                TextBoundaries::firstErrorReturnsItsIndex);
        Sentences.holds("the length of the buffer if there is none.", TextBoundaries::firstErrorWithoutError);
    }

    private static void dueError(String text, int want) {
        BulbShapes x = new BulbShapes();
        Check.write(x, text);
        Check.due("firstError() of " + text, x.firstError(), want);
        Check.due("clearBuffer() behind it", x.clearBuffer(), text.length());
        Check.due("saved states: firstError is not undoable", x.count(7), 0);
    }

    private static void firstErrorIsTheFirst() {
        dueError("4-a", 0);
        dueError("4-p", 0);
        dueError("0-a;4-p", 4);
        dueError("0-a!1-b", 3);
        dueError("0-a;;1-b", 4);
    }

    private static void firstErrorReturnsItsIndex() {
        dueError("!", 0);
        dueError("0!", 1);
        dueError("0-!", 2);
        dueError("0-a!", 3);
        dueError("0-a;!", 4);
        dueError("0-a;1!", 5);
        dueError("0-a;1+!", 6);
        dueError("0-a;1+b!", 7);
        dueError("0-" + "a".repeat(57) + "!", 59);
        dueError("!" + "a".repeat(59), 0);
    }

    private static void firstErrorWithoutError() {
        dueError("", 0);
        dueError("0", 1);
        dueError("0-", 2);
        dueError("0-a", 3);
        dueError("0-a;", 4);
        dueError("0-a;1", 5);
        dueError("0-a;1+", 6);
        dueError("0-a;1+b", 7);
        dueError("0-" + "a".repeat(58), 60);
        dueError("0-" + "a".repeat(57) + ";", 60);
    }

    private static void promise11() {
        Sentences.in("Promise 11");
        Sentences.holds("Burns and mends the lamps in the buffer", TextBoundaries::lampsBurnsAndMends);
        Sentences.holds("one after the other", TextBoundaries::oneAfterTheOther);
        Sentences.holds("and clears the buffer.", TextBoundaries::lampsClearsTheBuffer);
        Sentences.holds("Undoable, as one call.", TextBoundaries::lampsIsUndoable);
        Sentences.holds("Returns how many lamps are burnt then, of all fields.", TextBoundaries::lampsReturns);
        Sentences.holds("Throws `IllegalArgumentException` if the buffer is not complete lamps as a text",
                TextBoundaries::lampsThrows);
    }

    private static int lamps(BulbShapes x, String text) {
        Check.write(x, text);
        return x.lamps();
    }

    private static void lampsBurnsAndMends() {
        BulbShapes x = new BulbShapes();
        x.number(8888);
        x.pass(2);
        lamps(x, "0-ao;3-ao");
        for (int field : new int[] {0, 3}) {
            Check.due("lampOf(" + field + ", 0, 0)", x.lampOf(field, 0, 0), 1);
            Check.due("lampOf(" + field + ", 14, 0)", x.lampOf(field, 14, 0), 1);
            Check.due("field(" + field + ", 3)", x.field(field, 3), 2);
        }
        lamps(x, "3+o;0+bo");
        Check.due("lampOf(3, 14, 0)", x.lampOf(3, 14, 0), 0);
        Check.due("lampOf(3, 0, 0)", x.lampOf(3, 0, 0), 1);
        Check.due("lampOf(0, 14, 0)", x.lampOf(0, 14, 0), 0);
        Check.due("hours of a lamp that is mended though it worked", x.lampOf(0, 1, 1), 0);
        Check.due("hours of a lamp that is not told", x.lampOf(0, 3, 1), 2);
        lamps(x, "0-d");
        Check.due("hours of a lamp that is burnt", x.lampOf(0, 3, 1), 2);
        Check.due("lamps that burnt by their hours", x.count(5), 0);
    }

    private static void oneAfterTheOther() {
        BulbShapes x = new BulbShapes();
        x.number(8);
        x.pass(2);
        Check.due("lamps() of 3-b;3+b", lamps(x, "3-b;3+b"), 0);
        Check.due("its hours", x.lampOf(3, 1, 1), 0);
        Check.due("lamps() of 3+b;3-b", lamps(x, "3+b;3-b"), 1);
        Check.due("lamps() of 2-abc;2+b;2-b;2+a", lamps(x, "2-abc;2+b;2-b;2+a"), 3);
        Check.due("lampOf(2, 0, 0)", x.lampOf(2, 0, 0), 0);
        Check.due("lampOf(2, 1, 0)", x.lampOf(2, 1, 0), 1);
    }

    private static void lampsClearsTheBuffer() {
        BulbShapes x = new BulbShapes();
        lamps(x, "0-" + "a".repeat(58));
        Check.due("clearBuffer()", x.clearBuffer(), 0);
    }

    private static void lampsIsUndoable() {
        BulbShapes x = new BulbShapes();
        x.number(8888);
        x.pass(3);
        long before = x.digest();
        lamps(x, "0-abcdefghijklmno;1-b;2+b;3-a;3+a");
        Check.due("saved states", x.count(7), 3);
        Check.due("undo()", x.undo(), 2);
        Check.due("digest() behind undo()", x.digest(), before);
        lamps(x, "0+a");
        Check.due("saved states behind lamps() of 0+a", x.count(7), 3);
    }

    private static void lampsReturns() {
        BulbShapes x = new BulbShapes();
        Check.due("lamps() of 0+a", lamps(x, "0+a"), 0);
        x.lamp(1, 5, true);
        Check.due("lamps() of 0-a", lamps(x, "0-a"), 2);
        Check.due("lamps() of 0-a again", lamps(x, "0-a"), 2);
        Check.due("lamps() of 0-aaa", lamps(x, "0-aaa"), 2);
        for (int field = 0; field < Boards.FIELDS; field++) {
            lamps(x, field + "-abcdefghijklmno");
        }
        Check.due("lamps() of 3-o behind all", lamps(x, "3-o"), 60);
        Check.due("lamps() of 2+o", lamps(x, "2+o"), 59);
    }

    private static void lampsThrows() {
        String[] texts = {"", "0", "0-", "0-a;", "0-a;1", "0-a;1+", "4-a", "0-p", "0-a+", "0-a;1+b;", "0-ax", "x0-a",
            "0-" + "a".repeat(57) + ";", "0-" + "a".repeat(56) + ";1", "0-" + "a".repeat(55) + ";1-"};
        for (String text : texts) {
            BulbShapes x = new BulbShapes();
            Check.write(x, text);
            Check.illegalArgument("lamps() of " + text, x, x::lamps);
            Check.due("clearBuffer() behind it", x.clearBuffer(), text.length());
            Check.due("burnt lamps behind it", x.count(1), 0);
        }
    }

    private static void promise12() {
        Sentences.in("Promise 12");
        Sentences.holds("Restores the latest saved state, and drops it.", TextBoundaries::undoRestores);
        Sentences.holds("and drops it", TextBoundaries::undoDrops);
        Sentences.holds("Returns how many saved states are left.", TextBoundaries::undoReturns);
        Sentences.holds("Throws `IllegalStateException` if there is none", TextBoundaries::undoWithNone);
    }

    private static void undoRestores() {
        BulbShapes x = new BulbShapes();
        x.number(1807);
        x.set(1, 1);
        x.set(0, 4);
        long before = x.digest();
        x.pass(250);
        x.undo();
        Check.due("digest() behind pass(250) and undo()", x.digest(), before);
        x.mend(1);
        x.lamp(1, 3, true);
        x.undo();
        x.undo();
        Check.due("digest() behind mend, lamp and two undo()", x.digest(), before);
    }

    private static void undoDrops() {
        BulbShapes x = new BulbShapes();
        x.number(1);
        x.number(2);
        x.undo();
        Check.due("number behind undo()", x.count(6), 1);
        x.undo();
        Check.due("number behind two undo()", x.count(6), NONE);
        Check.due("saved states: undo saves none", x.count(7), 0);
    }

    private static void undoReturns() {
        BulbShapes x = Boards.full();
        for (int left = 5; left >= 0; left--) {
            Check.due("undo()", x.undo(), left);
            Check.due("count(7)", x.count(7), left);
        }
    }

    private static void undoWithNone() {
        BulbShapes x = new BulbShapes();
        Check.illegalState("undo() of a new board", x, x::undo);
        Check.write(x, "0-a");
        x.firstError();
        Check.illegalState("undo() behind calls that are not undoable", x, x::undo);
        x.number(1);
        x.undo();
        Check.illegalState("undo() behind the last one", x, x::undo);
        x.number(2);
        Check.due("undo() of one more", x.undo(), 0);
    }
}
