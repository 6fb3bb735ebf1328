import java.io.IOException;
import java.nio.file.Files;
import java.nio.file.Path;

/** The sections 'Undo' and 'Exceptions'. */
final class UndoBoundaries {
    private static final int NONE = Boards.NONE;

    private UndoBoundaries() {
    }

    static void run() {
        undo();
        exceptions();
        theInterface();
    }

    private static void undo() {
        Sentences.in("Undo");
        Sentences.holds("Each method that is marked \"undoable\"", UndoBoundaries::eachUndoableSaves);
        Sentences.holds("and does not throw an exception", UndoBoundaries::throwingSavesNothing);
        Sentences.holds("saves the state from before it (also if it changes nothing)",
                UndoBoundaries::savesThoughNothingChanges);
        Sentences.holds("all, also what is counted so far", UndoBoundaries::allIsSaved);
        Sentences.holds("but the buffer", UndoBoundaries::theBufferStays);
        Sentences.holds("and the saved states.", UndoBoundaries::theSavedStatesStay);
        Sentences.holds("At most 6 states are saved;", UndoBoundaries::atMostSix);
        Sentences.holds("the oldest one is dropped first.", UndoBoundaries::theOldestIsDropped);
        Sentences.holds("the oldest one is dropped first.", UndoBoundaries::droppedAgainAndAgain);
        Sentences.holds("the oldest one is dropped first.", UndoBoundaries::droppedByCallsThatChangeNothing);
    }

    private static void eachUndoableSaves() {
        BulbShapes x = new BulbShapes();
        Boards.dueUndoable(x, "show(0, 1)", () -> x.show(0, 1));
        Boards.dueUndoable(x, "number(1)", () -> x.number(1));
        Boards.dueUndoable(x, "lamp(0, 0, true)", () -> x.lamp(0, 0, true));
        Boards.dueUndoable(x, "mend(0)", () -> x.mend(0));
        Boards.dueUndoable(x, "pass(1)", () -> x.pass(1));
        Boards.dueUndoable(x, "set(0, 5)", () -> x.set(0, 5));
        Check.write(x, "0-a");
        x.lamps();
        Check.due("saved states behind lamps()", x.count(7), 1);
        Check.due("undo() of lamps()", x.undo(), 0);
        Check.due("burnt lamps behind it", x.count(1), 0);
    }

    private static void throwingSavesNothing() {
        BulbShapes x = new BulbShapes();
        Check.due("show(0, 10)", Check.told(() -> x.show(0, 10)), "throws.IllegalArgumentException");
        Check.due("lamps() of none", Check.told(x::lamps), "throws.IllegalArgumentException");
        Check.due("saved states", x.count(7), 0);
        Check.illegalState("undo()", x, x::undo);
    }

    private static void savesThoughNothingChanges() {
        BulbShapes x = new BulbShapes();
        Check.write(x, "0+a");
        x.lamps();
        Check.due("saved states behind lamps() of 0+a", x.count(7), 1);
        x.show(2, NONE);
        Check.due("saved states behind show(2, NONE) in the dark", x.count(7), 2);
        x.lamp(1, 7, false);
        Check.due("saved states behind lamp() of one that works", x.count(7), 3);
        x.mend(3);
        Check.due("saved states behind mend() of whole lamps", x.count(7), 4);
        x.set(0, 2);
        Check.due("saved states behind set(0, 2) at 2", x.count(7), 5);
        x.number(7);
        x.undo();
        Check.due("undo()", x.undo(), 4);
        x.number(7);
        x.number(7);
        Check.due("saved states behind number(7) twice", x.count(7), 6);
        x.undo();
        Check.due("number behind undo of the second one", x.count(6), 7);
    }

    private static void allIsSaved() {
        BulbShapes x = new BulbShapes();
        x.number(8);
        x.set(1, 1);
        x.pass(100);
        long before = x.digest();
        x.mend(3);
        x.number(17);
        Check.due("lamps burn in pass(300)", x.pass(300) > 0, true);
        x.undo();
        x.undo();
        x.undo();
        Check.due("hours that passed", x.count(0), 100);
        Check.due("lamps that burnt by their hours", x.count(5), 7);
        Check.due("hours of a lamp", x.lampOf(3, 1, 1), 100);
        Check.due("digest()", x.digest(), before);
        x.undo();
        Check.due("hours that passed, ahead of pass(100)", x.count(0), 0);
        Check.due("lamps that burnt by their hours, ahead of pass(100)", x.count(5), 0);
        Check.due("hours of a lamp, ahead of pass(100)", x.lampOf(3, 1, 1), 0);
    }

    private static void theBufferStays() {
        BulbShapes x = new BulbShapes();
        Check.write(x, "0-a;");
        x.number(1);
        Check.write(x, "1-b");
        x.undo();
        Check.due("append('c') behind undo()", x.append('c'), 8);
        Check.due("lamps()", x.lamps(), 3);
        x.undo();
        Check.due("clearBuffer() behind undo of lamps()", x.clearBuffer(), 0);
        x.number(1);
        Check.write(x, "2");
        x.number(2);
        x.clearBuffer();
        x.undo();
        Check.due("clearBuffer() behind clearBuffer() and undo()", x.clearBuffer(), 0);
    }

    private static void theSavedStatesStay() {
        BulbShapes x = new BulbShapes();
        x.number(1);
        x.number(2);
        x.number(3);
        Check.due("undo()", x.undo(), 2);
        Check.due("saved states", x.count(7), 2);
        x.number(4);
        Check.due("undo() of 4", x.undo(), 2);
        Check.due("number behind it", x.count(6), 2);
        Check.due("undo() of 2", x.undo(), 1);
        Check.due("number behind it", x.count(6), 1);
        Check.due("undo() of 1", x.undo(), 0);
        Check.due("number behind it", x.count(6), NONE);
    }

    private static void atMostSix() {
        BulbShapes x = new BulbShapes();
        for (int number = 1; number <= 8; number++) {
            x.number(number);
            Check.due("saved states behind " + number, x.count(7), Math.min(number, 6));
        }
        for (int left = 5; left >= 0; left--) {
            Check.due("undo()", x.undo(), left);
        }
        Check.illegalState("undo() for the seventh time", x, x::undo);
    }

    private static void theOldestIsDropped() {
        BulbShapes x = Boards.full();
        x.number(99);
        for (int number = 5; number >= 0; number--) {
            x.undo();
            Check.due("number behind undo()", x.count(6), number);
        }
        BulbShapes y = Boards.full();
        for (int left = 5; left >= 0; left--) {
            Check.due("undo() of six", y.undo(), left);
        }
        Check.due("number behind six undo()", y.count(6), NONE);
        x.number(6);
        x.number(7);
        x.undo();
        Check.due("number behind dropping, undo and two more", x.count(6), 6);
        x.undo();
        Check.due("number behind that", x.count(6), 0);
    }

    private static void droppedAgainAndAgain() {
        for (int last = 1; last <= 20; last++) {
            BulbShapes x = new BulbShapes();
            for (int number = 1; number <= last; number++) {
                x.number(number);
            }
            for (int left = Math.min(last, 6) - 1; left >= 0; left--) {
                Check.due("undo()", x.undo(), left);
                int number = last - Math.min(last, 6) + left;
                Check.due("number behind undo() of " + last, x.count(6), number == 0 ? NONE : number);
            }
            Check.illegalState("undo() with none left", x, x::undo);
        }
    }

    private static void droppedByCallsThatChangeNothing() {
        BulbShapes x = Boards.full();
        x.number(5);
        x.show(0, NONE);
        x.lamp(0, 0, false);
        x.mend(2);
        x.set(1, 0);
        Check.due("saved states", x.count(7), 6);
        int[] numbers = {5, 5, 5, 5, 5, 4};
        for (int number : numbers) {
            x.undo();
            Check.due("number behind undo()", x.count(6), number);
        }
        Check.illegalState("undo() with none left", x, x::undo);
    }

    private static void exceptions() {
        Sentences.in("Exceptions");
        Sentences.holds("A call that throws an exception changes nothing.", UndoBoundaries::throwingBoardCalls);
        Sentences.holds("A call that throws an exception changes nothing.", UndoBoundaries::throwingTextCalls);
        Sentences.holds("A call that throws an exception changes nothing.", UndoBoundaries::throwingLooks);
        Sentences.holds("If several exceptions apply, the one that is named first in the throws clause is thrown.",
                UndoBoundaries::theFirstNamedIsThrown);
    }

    /** No hour more can pass, the buffer is full, six states are saved; 5, 7, 8, 9 cannot be shown. */
    private static BulbShapes atItsEnds() {
        BulbShapes x = new BulbShapes();
        Boards.pass(x, 99999);
        x.set(0, 5);
        Check.write(x, "~".repeat(60));
        for (int number : new int[] {0, 1, 2, 3, 4, 6}) {
            x.number(number);
        }
        return x;
    }

    private static void dueAllStates(BulbShapes x) {
        Check.due("saved states", x.count(7), 6);
        int[] numbers = {4, 3, 2, 1, 0, NONE};
        for (int number : numbers) {
            x.undo();
            Check.due("number behind undo()", x.count(6), number);
        }
        Check.due("clearBuffer()", x.clearBuffer(), 60);
        Check.due("hours that passed", x.count(0), 99999);
    }

    private static void throwingBoardCalls() {
        BulbShapes x = atItsEnds();
        Check.outOfBounds("show(4, 1)", x, () -> x.show(4, 1));
        Check.illegalArgument("show(0, 10)", x, () -> x.show(0, 10));
        Check.illegalState("show(0, 9)", x, () -> x.show(0, 9));
        Check.illegalArgument("number(10000)", x, () -> x.number(10000));
        Check.illegalState("number(1239)", x, () -> x.number(1239));
        Check.illegalState("number(9123)", x, () -> x.number(9123));
        Check.outOfBounds("lamp(4, 0, true)", x, () -> x.lamp(4, 0, true));
        Check.outOfBounds("lamp(0, 15, true)", x, () -> x.lamp(0, 15, true));
        Check.outOfBounds("mend(4)", x, () -> x.mend(4));
        Check.illegalArgument("pass(0)", x, () -> x.pass(0));
        Check.illegalState("pass(1)", x, () -> x.pass(1));
        Check.outOfBounds("set(2, 1)", x, () -> x.set(2, 1));
        Check.illegalArgument("set(0, 6)", x, () -> x.set(0, 6));
        dueAllStates(x);
    }

    private static void throwingTextCalls() {
        BulbShapes x = atItsEnds();
        Check.illegalArgument("append(32)", x, () -> x.append(32));
        Check.illegalState("append(33)", x, () -> x.append(33));
        Check.illegalArgument("lamps()", x, x::lamps);
        dueAllStates(x);
        Check.illegalState("undo()", x, x::undo);
    }

    private static void throwingLooks() {
        BulbShapes x = atItsEnds();
        Check.outOfBounds("field(4, 0)", x, () -> x.field(4, 0));
        Check.illegalArgument("field(0, 8)", x, () -> x.field(0, 8));
        Check.outOfBounds("lampOf(0, 15, 0)", x, () -> x.lampOf(0, 15, 0));
        Check.illegalArgument("lampOf(0, 0, 4)", x, () -> x.lampOf(0, 0, 4));
        Check.outOfBounds("table(4, 0, 0)", x, () -> x.table(4, 0, 0));
        Check.illegalArgument("table(0, 10, 0)", x, () -> x.table(0, 10, 0));
        Check.outOfBounds("read(4, 0)", x, () -> x.read(4, 0));
        Check.illegalArgument("read(0, 32768)", x, () -> x.read(0, 32768));
        Check.illegalArgument("count(8)", x, () -> x.count(8));
        Check.outOfBounds("setting(2)", x, () -> x.setting(2));
        Check.outOfBounds("ifBurnt(0, 15, 0)", x, () -> x.ifBurnt(0, 15, 0));
        Check.illegalArgument("ifBurnt(0, 0, 3)", x, () -> x.ifBurnt(0, 0, 3));
        Check.outOfBounds("worstLamp(4)", x, () -> x.worstLamp(4));
        Check.outOfBounds("strictest(4)", x, () -> x.strictest(4));
        dueAllStates(x);
    }

    private static void theFirstNamedIsThrown() {
        BulbShapes x = atItsEnds();
        Check.outOfBounds("show(4, 10)", x, () -> x.show(4, 10));
        Check.outOfBounds("show(-1, -2)", x, () -> x.show(-1, -2));
        Check.outOfBounds("show(4, 9)", x, () -> x.show(4, 9));
        Check.illegalArgument("number(10009)", x, () -> x.number(10009));
        Check.illegalArgument("number(-9)", x, () -> x.number(-9));
        Check.illegalArgument("pass(501)", x, () -> x.pass(501));
        Check.outOfBounds("set(2, 100)", x, () -> x.set(2, 100));
        Check.outOfBounds("set(-1, -1)", x, () -> x.set(-1, -1));
        Check.illegalArgument("append(32)", x, () -> x.append(32));
        Check.illegalArgument("append(127)", x, () -> x.append(127));
        Check.outOfBounds("field(4, 8)", x, () -> x.field(4, 8));
        Check.outOfBounds("field(-1, -1)", x, () -> x.field(-1, -1));
        Check.outOfBounds("lampOf(4, 0, 4)", x, () -> x.lampOf(4, 0, 4));
        Check.outOfBounds("lampOf(0, 15, -1)", x, () -> x.lampOf(0, 15, -1));
        Check.outOfBounds("table(4, 10, 3)", x, () -> x.table(4, 10, 3));
        Check.outOfBounds("table(-1, -1, 0)", x, () -> x.table(-1, -1, 0));
        Check.outOfBounds("table(-1, 0, -1)", x, () -> x.table(-1, 0, -1));
        Check.outOfBounds("read(4, 32768)", x, () -> x.read(4, 32768));
        Check.outOfBounds("read(-1, -1)", x, () -> x.read(-1, -1));
        Check.outOfBounds("ifBurnt(4, 0, 3)", x, () -> x.ifBurnt(4, 0, 3));
        Check.outOfBounds("ifBurnt(0, -1, -1)", x, () -> x.ifBurnt(0, -1, -1));
    }

    private static void theInterface() {
        Sentences.holds("The constants: `NONE = -1`: There is nothing to return.",
                () -> Check.due("NONE", BulbShapes.NONE, -1));
        Sentences.holds("Ahead of the calls `show`, `number`, `lamp`, `mend`, `pass`, `set` the interface says: "
                + "---- the board.", () -> dueAhead("---- the board", "show", "set"));
        Sentences.holds("Ahead of the calls `append`, `clearBuffer`, `firstError`, `lamps`, `undo` the interface says: "
                + "---- texts.", () -> dueAhead("---- texts", "append", "undo"));
        Sentences.holds("Ahead of the calls `field`, `lampOf`, `table`, `read`, `count`, `setting` the interface says: "
                + "---- looks; nothing is changed.",
                () -> dueAhead("---- looks; nothing is changed", "field", "setting"));
        Sentences.holds("Ahead of the calls `ifBurnt`, `worstLamp`, `strictest`, `nextBurn`, `clarity`, `digest` the "
                + "interface says: ---- what would be; nothing is changed.",
                () -> dueAhead("---- what would be; nothing is changed", "ifBurnt", "digest"));
    }

    private static void dueAhead(String words, String first, String last) {
        String source = source();
        int start = source.indexOf("    // " + words + "\n");
        Check.due("the words stand in the class", start >= 0, true);
        int next = source.indexOf("    // ----", start + 1);
        String behind = source.substring(source.indexOf("    public ", start));
        Check.due(first + " is the first call behind them",
                behind.matches("(?s)    public \\w+ " + first + "\\(.*"), true);
        int end = source.indexOf(" " + last + "(", start);
        Check.due(last + " stands behind them", end > start && (next < 0 || end < next), true);
    }

    private static String source() {
        try {
            return Files.readString(Path.of("src/main/java/BulbShapes.java"));
        } catch (IOException e) {
            throw new IllegalStateException("no class to look at", e);
        }
    }
}
