/** A scoreboard of bulbs that stays readable as lamps burn out, by choosing shapes. */
public final class BulbShapes {
    public static final int NONE = -1;

    private static final int FIELDS = 4;
    private static final int LAMPS = 15;
    private static final int ALL_LAMPS = 077777;
    private static final int DIGITS = 10;
    private static final int SHAPES_A_DIGIT = 3;
    private static final int GREATEST_NUMBER = 9999;

    private static final int SETTINGS = 2;
    private static final int STRICTNESS = 0;
    private static final int LIFE = 1;
    private static final int STRICTNESS_AT_FIRST = 2;
    private static final int LEAST_STRICTNESS = 1;
    private static final int GREATEST_STRICTNESS = 5;
    private static final int GREATEST_LIFE = 99;
    private static final int HOURS_A_LIFE = 100;

    private static final int MOST_HOURS_A_CALL = 500;
    private static final int MOST_HOURS = 99999;
    private static final int MOST_SAVED = 6;
    private static final int MOST_CHARACTERS = 60;
    private static final int FIRST_CHARACTER = 33;
    private static final int LAST_CHARACTER = 126;

    private static final int FIELD_PROPERTIES = 8;
    private static final int LAMP_PROPERTIES = 4;
    private static final int TABLE_PROPERTIES = 3;
    private static final int COUNTS = 8;
    private static final int BURNT_PROPERTIES = 3;

    private static final long HASH_AT_FIRST = 2801L;
    private static final int LAMPS_READ_FOR_HASH = 21845;
    private static final int ONE_AS_EXPONENT = 1023;
    private static final int MANTISSA_BITS = 52;

    /** The lamps of the shapes, three a digit. */
    private static final int[] SHAPES = {
        075557, 025552, 065553,
        026227, 022222, 013111,
        071747, 061243, 071247,
        071717, 061216, 071316,
        055711, 045711, 013571,
        074717, 074616, 074712,
        074757, 034757, 024652,
        071111, 071122, 071244,
        075757, 025252, 075257,
        075717, 075712, 025316,
    };

    private final Board board = new Board();
    private final Table[] tables = new Table[FIELDS];
    /** The table that would be; made once, since looks may not make objects again and again. */
    private final Table trial = new Table();
    private final Text text = new Text();
    private final History history = new History();

    public BulbShapes() {
        for (int f = 0; f < FIELDS; f++) {
            tables[f] = new Table();
        }
        chooseAllTables();
    }

    // ---- the board

    public int show(int field, int digit)
            throws IndexOutOfBoundsException, IllegalArgumentException, IllegalStateException {
        if (!isField(field)) {
            throw new IndexOutOfBoundsException("there is no such field");
        }
        if (digit != NONE && !isDigit(digit)) {
            throw new IllegalArgumentException("the digit is out of range");
        }
        if (digit != NONE && !tables[field].canShow(digit)) {
            throw new IllegalStateException("the digit cannot be shown there");
        }
        history.save(board);
        int previous = board.digits[field];
        board.digits[field] = digit;
        return previous;
    }

    public int number(int number) throws IllegalArgumentException, IllegalStateException {
        if (number < 0 || number > GREATEST_NUMBER) {
            throw new IllegalArgumentException("the number is out of range");
        }
        if (!canShowNumber(number)) {
            throw new IllegalStateException("a digit cannot be shown at its field");
        }
        history.save(board);
        for (int f = 0; f < FIELDS; f++) {
            board.digits[f] = digitAt(number, f);
        }
        return fieldsWithDigit();
    }

    public int lamp(int field, int lamp, boolean isBurnt) throws IndexOutOfBoundsException {
        if (!isField(field) || !isLamp(lamp)) {
            throw new IndexOutOfBoundsException("there is no such field or lamp");
        }
        history.save(board);
        board.setLamp(field, lamp, isBurnt);
        trial.choose(board.burnt[field], board.settings[STRICTNESS]);
        int changes = trial.changesFrom(tables[field]);
        chooseTable(field);
        return changes;
    }

    public int mend(int field) throws IndexOutOfBoundsException {
        if (!isField(field)) {
            throw new IndexOutOfBoundsException("there is no such field");
        }
        history.save(board);
        int mended = Integer.bitCount(board.burnt[field]);
        for (int lamp = 0; lamp < LAMPS; lamp++) {
            board.setLamp(field, lamp, false);
        }
        chooseTable(field);
        return mended;
    }

    public int pass(int hours) throws IllegalArgumentException, IllegalStateException {
        if (hours < 1 || hours > MOST_HOURS_A_CALL) {
            throw new IllegalArgumentException("the hours are out of range");
        }
        if (board.hoursPassed + hours > MOST_HOURS) {
            throw new IllegalStateException("too many hours would have passed");
        }
        history.save(board);
        int burning = 0;
        int left = hours;
        // from burning to burning, since nothing but hours changes between two of them
        for (int turn = 0; turn < hours && left > 0; turn++) {
            int soonest = nextBurn();
            int step = soonest == NONE || soonest > left ? left : soonest;
            light(step);
            burning += burnWorn();
            left -= step;
        }
        board.hoursPassed += hours;
        board.burntByHours += burning;
        return burning;
    }

    public int set(int setting, int value) throws IndexOutOfBoundsException, IllegalArgumentException {
        if (!isSetting(setting)) {
            throw new IndexOutOfBoundsException("there is no such setting");
        }
        if (!isValueOf(setting, value)) {
            throw new IllegalArgumentException("the value is out of range");
        }
        history.save(board);
        int previous = board.settings[setting];
        board.settings[setting] = value;
        chooseAllTables();
        return previous;
    }

    // ---- texts

    public int append(int code) throws IllegalArgumentException, IllegalStateException {
        if (code < FIRST_CHARACTER || code > LAST_CHARACTER) {
            throw new IllegalArgumentException("the code is out of range");
        }
        if (text.isFull()) {
            throw new IllegalStateException("the buffer is full");
        }
        text.put((char) code);
        return text.length;
    }

    public int clearBuffer() {
        int length = text.length;
        text.empty();
        return length;
    }

    public int firstError() {
        return text.lengthWithoutError();
    }

    public int lamps() throws IllegalArgumentException {
        if (!text.isComplete()) {
            throw new IllegalArgumentException("the buffer is not complete lamps as a text");
        }
        history.save(board);
        burnAndMendByText();
        text.empty();
        chooseAllTables();
        return burntLamps();
    }

    public int undo() throws IllegalStateException {
        if (history.held == 0) {
            throw new IllegalStateException("there is no saved state");
        }
        history.restore(board);
        chooseAllTables();
        return history.held;
    }

    // ---- looks; nothing is changed

    public int field(int field, int what) throws IndexOutOfBoundsException, IllegalArgumentException {
        if (!isField(field)) {
            throw new IndexOutOfBoundsException("there is no such field");
        }
        if (what < 0 || what >= FIELD_PROPERTIES) {
            throw new IllegalArgumentException("there is no such property");
        }
        int digit = board.digits[field];
        Table chosen = tables[field];
        switch (what) {
            case 0: return digit;
            case 1: return chosen.shapeOf(digit);
            case 2: return litOf(field);
            case 3: return Integer.bitCount(board.burnt[field]);
            case 4: return isShown(field) ? chosen.missingOf(digit) : 0;
            case 5: return chosen.digitsAsMask();
            case 6: return chosen.leastDifference();
            default: return chosen.firstHidden();
        }
    }

    public int lampOf(int field, int lamp, int what) throws IndexOutOfBoundsException, IllegalArgumentException {
        if (!isField(field) || !isLamp(lamp)) {
            throw new IndexOutOfBoundsException("there is no such field or lamp");
        }
        if (what < 0 || what >= LAMP_PROPERTIES) {
            throw new IllegalArgumentException("there is no such property");
        }
        switch (what) {
            case 0: return has(board.burnt[field], lamp) ? 1 : 0;
            case 1: return board.hoursOf(field, lamp);
            case 2: return has(litOf(field), lamp) ? 1 : 0;
            default: return tables[field].digitsWith(lamp);
        }
    }

    public int table(int field, int digit, int what) throws IndexOutOfBoundsException, IllegalArgumentException {
        if (!isField(field)) {
            throw new IndexOutOfBoundsException("there is no such field");
        }
        if (!isDigit(digit) || what < 0 || what >= TABLE_PROPERTIES) {
            throw new IllegalArgumentException("the digit or what is asked of it is out of range");
        }
        Table chosen = tables[field];
        switch (what) {
            case 0: return chosen.shapeOf(digit);
            case 1: return chosen.shownOf(digit);
            default: return chosen.missingOf(digit);
        }
    }

    public int read(int field, int lamps) throws IndexOutOfBoundsException, IllegalArgumentException {
        if (!isField(field)) {
            throw new IndexOutOfBoundsException("there is no such field");
        }
        if (lamps < 0 || lamps > ALL_LAMPS) {
            throw new IllegalArgumentException("the lamps are out of range");
        }
        return tables[field].nearestTo(lamps);
    }

    public int count(int what) throws IllegalArgumentException {
        if (what < 0 || what >= COUNTS) {
            throw new IllegalArgumentException("there is no such number");
        }
        switch (what) {
            case 0: return board.hoursPassed;
            case 1: return burntLamps();
            case 2: return fieldsWithDigit();
            case 3: return fieldsWithDigit() - fieldsShown();
            case 4: return litLamps();
            case 5: return board.burntByHours;
            case 6: return numberShown();
            default: return history.held;
        }
    }

    public int setting(int setting) throws IndexOutOfBoundsException {
        if (!isSetting(setting)) {
            throw new IndexOutOfBoundsException("there is no such setting");
        }
        return board.settings[setting];
    }

    // ---- what would be; nothing is changed

    public int ifBurnt(int field, int lamp, int what) throws IndexOutOfBoundsException, IllegalArgumentException {
        if (!isField(field) || !isLamp(lamp)) {
            throw new IndexOutOfBoundsException("there is no such field or lamp");
        }
        if (what < 0 || what >= BURNT_PROPERTIES) {
            throw new IllegalArgumentException("there is no such number");
        }
        tryBurning(field, lamp);
        switch (what) {
            case 0: return trial.hiddenDigits();
            case 1: return trial.changesFrom(tables[field]);
            default: return trial.leastDifference();
        }
    }

    public int worstLamp(int field) throws IndexOutOfBoundsException {
        if (!isField(field)) {
            throw new IndexOutOfBoundsException("there is no such field");
        }
        int worst = NONE;
        int mostHidden = NONE;
        int mostChanges = NONE;
        for (int lamp = 0; lamp < LAMPS; lamp++) {
            if (has(board.burnt[field], lamp)) {
                continue;
            }
            tryBurning(field, lamp);
            int hidden = trial.hiddenDigits();
            int changes = trial.changesFrom(tables[field]);
            if (hidden > mostHidden || (hidden == mostHidden && changes > mostChanges)) {
                worst = lamp;
                mostHidden = hidden;
                mostChanges = changes;
            }
        }
        return worst;
    }

    public int strictest(int field) throws IndexOutOfBoundsException {
        if (!isField(field)) {
            throw new IndexOutOfBoundsException("there is no such field");
        }
        for (int strictness = GREATEST_STRICTNESS; strictness >= LEAST_STRICTNESS; strictness--) {
            trial.choose(board.burnt[field], strictness);
            if (trial.hiddenDigits() == 0) {
                return strictness;
            }
        }
        return 0;
    }

    public int nextBurn() {
        int soonest = NONE;
        for (int f = 0; f < FIELDS; f++) {
            for (int lamp = 0; lamp < LAMPS; lamp++) {
                int hours = hoursUntilBurning(f, lamp);
                if (hours != NONE && (soonest == NONE || hours < soonest)) {
                    soonest = hours;
                }
            }
        }
        return soonest;
    }

    public double clarity() {
        int shown = 0;
        for (int f = 0; f < FIELDS; f++) {
            shown += DIGITS - tables[f].hiddenDigits();
        }
        return shown / 40.0;
    }

    public long digest() {
        long hash = HASH_AT_FIRST;
        for (int what = 0; what < COUNTS; what++) {
            hash = hashWith(hash, count(what));
        }
        for (int s = 0; s < SETTINGS; s++) {
            hash = hashWith(hash, board.settings[s]);
        }
        for (int f = 0; f < FIELDS; f++) {
            hash = hashWithField(hash, f);
            hash = hashWith(hash, worstLamp(f));
            hash = hashWith(hash, strictest(f));
            hash = hashWith(hash, read(f, LAMPS_READ_FOR_HASH));
        }
        hash = hashWith(hash, nextBurn());
        hash = hashWith(hash, bitsOfShare(clarity()));
        hash = hashWith(hash, text.length);
        for (int i = 0; i < text.length; i++) {
            hash = hashWith(hash, text.at(i));
        }
        return hash;
    }

    private long hashWithField(long start, int field) {
        long hash = start;
        for (int what = 0; what < FIELD_PROPERTIES; what++) {
            hash = hashWith(hash, field(field, what));
        }
        for (int digit = 0; digit < DIGITS; digit++) {
            for (int what = 0; what < TABLE_PROPERTIES; what++) {
                hash = hashWith(hash, table(field, digit, what));
            }
        }
        for (int lamp = 0; lamp < LAMPS; lamp++) {
            for (int what = 0; what < LAMP_PROPERTIES; what++) {
                hash = hashWith(hash, lampOf(field, lamp, what));
            }
        }
        return hash;
    }

    private static long hashWith(long hash, long value) {
        return 31L * hash + value;
    }

    /** Double.doubleToLongBits for 0.0 to 1.0: LANGUAGE.md leaves Double out. */
    private static long bitsOfShare(double share) {
        if (share <= 0.0) {
            return 0L;
        }
        double scaled = share;
        int exponent = ONE_AS_EXPONENT;
        for (int i = 0; i < ONE_AS_EXPONENT && scaled < 1.0; i++) {
            scaled = scaled * 2.0;
            exponent--;
        }
        long mantissa = (long) ((scaled - 1.0) * (double) (1L << MANTISSA_BITS));
        return ((long) exponent << MANTISSA_BITS) + mantissa;
    }

    private static boolean isField(int field) {
        return field >= 0 && field < FIELDS;
    }

    private static boolean isLamp(int lamp) {
        return lamp >= 0 && lamp < LAMPS;
    }

    private static boolean isDigit(int digit) {
        return digit >= 0 && digit < DIGITS;
    }

    private static boolean isSetting(int setting) {
        return setting >= 0 && setting < SETTINGS;
    }

    private static boolean isValueOf(int setting, int value) {
        if (setting == STRICTNESS) {
            return value >= LEAST_STRICTNESS && value <= GREATEST_STRICTNESS;
        }
        return value >= 0 && value <= GREATEST_LIFE;
    }

    private static int maskOf(int lamp) {
        return 1 << (LAMPS - 1 - lamp);
    }

    private static boolean has(int mask, int lamp) {
        return (mask & maskOf(lamp)) != 0;
    }

    /** The digit that the number gives to the field, NONE ahead of its first digit. */
    private static int digitAt(int number, int field) {
        int rest = number;
        for (int f = FIELDS - 1; f > field; f--) {
            rest = rest / 10;
        }
        return rest > 0 || field == FIELDS - 1 ? rest % 10 : NONE;
    }

    private boolean canShowNumber(int number) {
        for (int f = 0; f < FIELDS; f++) {
            int digit = digitAt(number, f);
            if (digit != NONE && !tables[f].canShow(digit)) {
                return false;
            }
        }
        return true;
    }

    private void chooseTable(int field) {
        tables[field].choose(board.burnt[field], board.settings[STRICTNESS]);
    }

    private void chooseAllTables() {
        for (int f = 0; f < FIELDS; f++) {
            chooseTable(f);
        }
    }

    private void tryBurning(int field, int lamp) {
        trial.choose(board.burnt[field] | maskOf(lamp), board.settings[STRICTNESS]);
    }

    private void light(int hours) {
        for (int f = 0; f < FIELDS; f++) {
            int lit = litOf(f);
            for (int lamp = 0; lamp < LAMPS; lamp++) {
                if (has(lit, lamp)) {
                    board.addHours(f, lamp, hours);
                }
            }
        }
    }

    private int burnWorn() {
        int burning = 0;
        for (int f = 0; f < FIELDS; f++) {
            for (int lamp = 0; lamp < LAMPS; lamp++) {
                if (!has(board.burnt[f], lamp) && isWorn(f, lamp)) {
                    board.setLamp(f, lamp, true);
                    burning++;
                }
            }
            chooseTable(f);
        }
        return burning;
    }

    private boolean isWorn(int field, int lamp) {
        int life = HOURS_A_LIFE * board.settings[LIFE];
        return life > 0 && board.hoursOf(field, lamp) >= life;
    }

    private int hoursUntilBurning(int field, int lamp) {
        if (board.settings[LIFE] == 0 || has(board.burnt[field], lamp)) {
            return NONE;
        }
        if (isWorn(field, lamp)) {
            return 1;
        }
        int left = HOURS_A_LIFE * board.settings[LIFE] - board.hoursOf(field, lamp);
        return has(litOf(field), lamp) ? left : NONE;
    }

    /** Only for a complete text: that each character stands at its place is not looked at again. */
    private void burnAndMendByText() {
        int field = 0;
        boolean burns = false;
        for (int i = 0; i < text.length; i++) {
            char c = text.at(i);
            if (Text.isFieldSign(c)) {
                field = c - Text.FIRST_FIELD;
            } else if (Text.isAction(c)) {
                burns = c == Text.BURN;
            } else if (Text.isLetter(c)) {
                board.setLamp(field, c - Text.FIRST_LETTER, burns);
            }
        }
    }

    private boolean isShown(int field) {
        return tables[field].canShow(board.digits[field]);
    }

    private int litOf(int field) {
        return isShown(field) ? tables[field].shownOf(board.digits[field]) : 0;
    }

    private int burntLamps() {
        int sum = 0;
        for (int f = 0; f < FIELDS; f++) {
            sum += Integer.bitCount(board.burnt[f]);
        }
        return sum;
    }

    private int litLamps() {
        int sum = 0;
        for (int f = 0; f < FIELDS; f++) {
            sum += Integer.bitCount(litOf(f));
        }
        return sum;
    }

    private int fieldsWithDigit() {
        int sum = 0;
        for (int f = 0; f < FIELDS; f++) {
            sum += board.digits[f] == NONE ? 0 : 1;
        }
        return sum;
    }

    private int fieldsShown() {
        int sum = 0;
        for (int f = 0; f < FIELDS; f++) {
            sum += isShown(f) ? 1 : 0;
        }
        return sum;
    }

    private int numberShown() {
        int shown = NONE;
        for (int f = 0; f < FIELDS; f++) {
            if (isShown(f)) {
                shown = shown == NONE ? board.digits[f] : 10 * shown + board.digits[f];
            } else if (board.digits[f] != NONE || shown != NONE) {
                return NONE;
            }
        }
        return shown;
    }

    /** Which shape each digit has on a field. */
    private static final class Table {
        private final int[] shapes = new int[DIGITS];
        private final int[] shown = new int[DIGITS];
        private final int[] missing = new int[DIGITS];

        void choose(int burnt, int strictness) {
            for (int digit = 0; digit < DIGITS; digit++) {
                chooseShape(digit, burnt, strictness);
            }
        }

        private void chooseShape(int digit, int burnt, int strictness) {
            shapes[digit] = NONE;
            shown[digit] = NONE;
            missing[digit] = NONE;
            for (int shape = 0; shape < SHAPES_A_DIGIT; shape++) {
                int lamps = lampsOf(digit, shape);
                int lost = Integer.bitCount(lamps & burnt);
                boolean isBetter = shapes[digit] == NONE || lost < missing[digit];
                if (isBetter && isApart(lamps & ~burnt, digit, strictness)) {
                    shapes[digit] = shape;
                    shown[digit] = lamps & ~burnt;
                    missing[digit] = lost;
                }
            }
        }

        /** Whether the lamps differ enough from what each digit below shows. */
        private boolean isApart(int lamps, int digit, int strictness) {
            for (int lower = 0; lower < digit; lower++) {
                if (shapes[lower] != NONE && Integer.bitCount(lamps ^ shown[lower]) < strictness) {
                    return false;
                }
            }
            return true;
        }

        private static int lampsOf(int digit, int shape) {
            return SHAPES[SHAPES_A_DIGIT * digit + shape];
        }

        boolean canShow(int digit) {
            return isDigit(digit) && shapes[digit] != NONE;
        }

        int shapeOf(int digit) {
            return canShow(digit) ? shapes[digit] : NONE;
        }

        int shownOf(int digit) {
            return canShow(digit) ? shown[digit] : NONE;
        }

        int missingOf(int digit) {
            return canShow(digit) ? missing[digit] : NONE;
        }

        int digitsAsMask() {
            int mask = 0;
            for (int digit = 0; digit < DIGITS; digit++) {
                mask |= shapes[digit] == NONE ? 0 : 1 << digit;
            }
            return mask;
        }

        int hiddenDigits() {
            return DIGITS - Integer.bitCount(digitsAsMask());
        }

        int firstHidden() {
            for (int digit = 0; digit < DIGITS; digit++) {
                if (shapes[digit] == NONE) {
                    return digit;
                }
            }
            return NONE;
        }

        int leastDifference() {
            int least = NONE;
            for (int digit = 0; digit < DIGITS; digit++) {
                for (int lower = 0; lower < digit; lower++) {
                    if (shapes[digit] == NONE || shapes[lower] == NONE) {
                        continue;
                    }
                    int difference = Integer.bitCount(shown[digit] ^ shown[lower]);
                    if (least == NONE || difference < least) {
                        least = difference;
                    }
                }
            }
            return least;
        }

        int digitsWith(int lamp) {
            int sum = 0;
            for (int digit = 0; digit < DIGITS; digit++) {
                if (shapes[digit] != NONE && has(lampsOf(digit, shapes[digit]), lamp)) {
                    sum++;
                }
            }
            return sum;
        }

        int changesFrom(Table other) {
            int sum = 0;
            for (int digit = 0; digit < DIGITS; digit++) {
                sum += shapes[digit] == other.shapes[digit] ? 0 : 1;
            }
            return sum;
        }

        /** The one digit that differs in the fewest lamps, NONE if there are several or none. */
        int nearestTo(int lamps) {
            int nearest = NONE;
            int least = LAMPS + 1;
            for (int digit = 0; digit < DIGITS; digit++) {
                if (shapes[digit] == NONE) {
                    continue;
                }
                int difference = Integer.bitCount(lamps ^ shown[digit]);
                if (difference < least) {
                    least = difference;
                    nearest = digit;
                } else if (difference == least) {
                    nearest = NONE;
                }
            }
            return nearest;
        }
    }

    /** What undo brings back; the tables follow from it. */
    private static final class Board {
        private final int[] digits = new int[FIELDS];
        private final int[] burnt = new int[FIELDS];
        private final int[] hours = new int[FIELDS * LAMPS];
        private final int[] settings = new int[SETTINGS];
        private int hoursPassed = 0;
        private int burntByHours = 0;

        Board() {
            for (int f = 0; f < FIELDS; f++) {
                digits[f] = NONE;
            }
            settings[STRICTNESS] = STRICTNESS_AT_FIRST;
        }

        void copyFrom(Board other) {
            System.arraycopy(other.digits, 0, digits, 0, FIELDS);
            System.arraycopy(other.burnt, 0, burnt, 0, FIELDS);
            System.arraycopy(other.hours, 0, hours, 0, FIELDS * LAMPS);
            System.arraycopy(other.settings, 0, settings, 0, SETTINGS);
            hoursPassed = other.hoursPassed;
            burntByHours = other.burntByHours;
        }

        void setLamp(int field, int lamp, boolean isBurnt) {
            if (isBurnt) {
                burnt[field] |= maskOf(lamp);
            } else {
                burnt[field] &= ~maskOf(lamp);
                hours[LAMPS * field + lamp] = 0;
            }
        }

        int hoursOf(int field, int lamp) {
            return hours[LAMPS * field + lamp];
        }

        void addHours(int field, int lamp, int more) {
            hours[LAMPS * field + lamp] += more;
        }
    }

    /** The saved states, in a ring: the boards in it are made once and written over. */
    private static final class History {
        private final Board[] boards = new Board[MOST_SAVED];
        private int oldest = 0;
        private int held = 0;

        History() {
            for (int i = 0; i < MOST_SAVED; i++) {
                boards[i] = new Board();
            }
        }

        void save(Board board) {
            boards[slot(held)].copyFrom(board);
            if (held < MOST_SAVED) {
                held++;
            } else {
                oldest = slot(1);
            }
        }

        void restore(Board board) {
            if (held > 0) {
                held--;
                board.copyFrom(boards[slot(held)]);
            }
        }

        private int slot(int age) {
            return (oldest + age) % MOST_SAVED;
        }
    }

    /** The buffer, and how lamps are written as a text. */
    private static final class Text {
        private static final char FIRST_FIELD = '0';
        private static final char LAST_FIELD = '3';
        private static final char BURN = '-';
        private static final char MEND = '+';
        private static final char FIRST_LETTER = 'a';
        private static final char LAST_LETTER = 'o';
        private static final char BETWEEN_PARTS = ';';

        /** What may come next. */
        private static final int A_FIELD = 0;
        private static final int AN_ACTION = 1;
        private static final int A_LETTER = 2;
        private static final int A_LETTER_OR_PART = 3;
        private static final int NOTHING = 4;

        private final char[] characters = new char[MOST_CHARACTERS];
        private int length = 0;

        boolean isFull() {
            return length >= MOST_CHARACTERS;
        }

        void put(char c) {
            if (!isFull()) {
                characters[length] = c;
                length++;
            }
        }

        void empty() {
            length = 0;
        }

        char at(int index) {
            return characters[index];
        }

        int lengthWithoutError() {
            int next = A_FIELD;
            for (int i = 0; i < length; i++) {
                next = nextAfter(next, characters[i]);
                if (next == NOTHING) {
                    return i;
                }
            }
            return length;
        }

        boolean isComplete() {
            int next = A_FIELD;
            for (int i = 0; i < length; i++) {
                next = nextAfter(next, characters[i]);
            }
            return next == A_LETTER_OR_PART;
        }

        private static int nextAfter(int expected, char c) {
            if (expected == A_FIELD && isFieldSign(c)) {
                return AN_ACTION;
            }
            if (expected == AN_ACTION && isAction(c)) {
                return A_LETTER;
            }
            if ((expected == A_LETTER || expected == A_LETTER_OR_PART) && isLetter(c)) {
                return A_LETTER_OR_PART;
            }
            return expected == A_LETTER_OR_PART && c == BETWEEN_PARTS ? A_FIELD : NOTHING;
        }

        static boolean isFieldSign(char c) {
            return c >= FIRST_FIELD && c <= LAST_FIELD;
        }

        static boolean isAction(char c) {
            return c == BURN || c == MEND;
        }

        static boolean isLetter(char c) {
            return c >= FIRST_LETTER && c <= LAST_LETTER;
        }
    }
}
