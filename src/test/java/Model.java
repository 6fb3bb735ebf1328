import java.util.ArrayDeque;
import java.util.Deque;
import java.util.regex.Matcher;
import java.util.regex.Pattern;

/**
 * The document word by word, without a thought of speed or room: nothing is kept that can be
 * worked out, hours pass one by one, and each call answers with a text, exceptions too.
 */
final class Model {
    private static final String SHAPES_AS_TOLD = "0: 75557, 25552, 65553; 1: 26227, 22222, 13111; "
            + "2: 71747, 61243, 71247; 3: 71717, 61216, 71316; 4: 55711, 45711, 13571; "
            + "5: 74717, 74616, 74712; 6: 74757, 34757, 24652; 7: 71111, 71122, 71244; "
            + "8: 75757, 25252, 75257; 9: 75717, 75712, 25316";
    private static final Pattern LAMPS = Pattern.compile("[0-3][-+][a-o]+(;[0-3][-+][a-o]+)*");
    private static final int[][] SHAPES = shapesAsTold();

    private static final String BOUNDS = "throws.IndexOutOfBoundsException";
    private static final String ARGUMENT = "throws.IllegalArgumentException";
    private static final String STATE = "throws.IllegalStateException";

    private static final class State {
        int[] digits = {-1, -1, -1, -1};
        boolean[][] burnt = new boolean[4][15];
        int[][] hours = new int[4][15];
        int[] settings = {2, 0};
        int hoursPassed;
        int burntByHours;

        State copy() {
            State copy = new State();
            copy.digits = digits.clone();
            for (int f = 0; f < 4; f++) {
                copy.burnt[f] = burnt[f].clone();
                copy.hours[f] = hours[f].clone();
            }
            copy.settings = settings.clone();
            copy.hoursPassed = hoursPassed;
            copy.burntByHours = burntByHours;
            return copy;
        }
    }

    private State now = new State();
    private final Deque<State> saved = new ArrayDeque<>();
    private String buffer = "";

    private static int[][] shapesAsTold() {
        int[][] shapes = new int[10][3];
        for (String told : SHAPES_AS_TOLD.split("; ")) {
            String[] parts = told.split(": ");
            String[] octals = parts[1].split(", ");
            for (int s = 0; s < 3; s++) {
                shapes[Integer.parseInt(parts[0])][s] = Integer.parseInt(octals[s], 8);
            }
        }
        return shapes;
    }

    private void save() {
        saved.addLast(now.copy());
        if (saved.size() > 6) {
            saved.removeFirst();
        }
    }

    private static int mask(boolean[] lamps) {
        int mask = 0;
        for (int k = 0; k < 15; k++) {
            mask |= lamps[k] ? 1 << (14 - k) : 0;
        }
        return mask;
    }

    private int[] tableOf(int f) {
        return tableOf(mask(now.burnt[f]), now.settings[0]);
    }

    private static int[] tableOf(int burnt, int apart) {
        int[] table = new int[10];
        for (int d = 0; d < 10; d++) {
            table[d] = -1;
            int fewest = 99;
            for (int s = 0; s < 3; s++) {
                int shown = SHAPES[d][s] & ~burnt;
                boolean isAllowed = true;
                for (int e = 0; e < d; e++) {
                    isAllowed &= table[e] < 0 || Integer.bitCount(shown ^ (SHAPES[e][table[e]] & ~burnt)) >= apart;
                }
                int missing = Integer.bitCount(SHAPES[d][s]) - Integer.bitCount(shown);
                if (isAllowed && missing < fewest) {
                    fewest = missing;
                    table[d] = s;
                }
            }
        }
        return table;
    }

    private static int hidden(int[] table) {
        int sum = 0;
        for (int shape : table) {
            sum += shape < 0 ? 1 : 0;
        }
        return sum;
    }

    private static int changes(int[] one, int[] other) {
        int sum = 0;
        for (int d = 0; d < 10; d++) {
            sum += one[d] != other[d] ? 1 : 0;
        }
        return sum;
    }

    private static int difference(int[] table, int burnt) {
        int least = -1;
        for (int d = 0; d < 10; d++) {
            for (int e = 0; e < 10; e++) {
                if (d != e && table[d] >= 0 && table[e] >= 0) {
                    int apart = Integer.bitCount((SHAPES[d][table[d]] ^ SHAPES[e][table[e]]) & ~burnt);
                    least = least < 0 ? apart : Math.min(least, apart);
                }
            }
        }
        return least;
    }

    private int shapeShown(int f) {
        return now.digits[f] < 0 ? -1 : tableOf(f)[now.digits[f]];
    }

    private int lit(int f) {
        int shape = shapeShown(f);
        return shape < 0 ? 0 : SHAPES[now.digits[f]][shape] & ~mask(now.burnt[f]);
    }

    private static boolean isIn(int value, int least, int greatest) {
        return value >= least && value <= greatest;
    }

    private static String told(long answer) {
        return Long.toString(answer);
    }

    String show(int f, int digit) {
        if (!isIn(f, 0, 3)) {
            return BOUNDS;
        }
        if (!isIn(digit, -1, 9)) {
            return ARGUMENT;
        }
        if (digit >= 0 && tableOf(f)[digit] < 0) {
            return STATE;
        }
        save();
        int previous = now.digits[f];
        now.digits[f] = digit;
        return told(previous);
    }

    String number(int number) {
        if (!isIn(number, 0, 9999)) {
            return ARGUMENT;
        }
        String digits = Integer.toString(number);
        int ahead = 4 - digits.length();
        for (int f = ahead; f < 4; f++) {
            if (tableOf(f)[digits.charAt(f - ahead) - '0'] < 0) {
                return STATE;
            }
        }
        save();
        for (int f = 0; f < 4; f++) {
            now.digits[f] = f < ahead ? -1 : digits.charAt(f - ahead) - '0';
        }
        return told(digits.length());
    }

    private void put(int f, int k, boolean isBurnt) {
        now.burnt[f][k] = isBurnt;
        now.hours[f][k] = isBurnt ? now.hours[f][k] : 0;
    }

    String lamp(int f, int k, boolean isBurnt) {
        if (!isIn(f, 0, 3) || !isIn(k, 0, 14)) {
            return BOUNDS;
        }
        save();
        int[] before = tableOf(f);
        put(f, k, isBurnt);
        return told(changes(before, tableOf(f)));
    }

    String mend(int f) {
        if (!isIn(f, 0, 3)) {
            return BOUNDS;
        }
        save();
        int burnt = 0;
        for (int k = 0; k < 15; k++) {
            burnt += now.burnt[f][k] ? 1 : 0;
            put(f, k, false);
        }
        return told(burnt);
    }

    String pass(int hours) {
        if (!isIn(hours, 1, 500)) {
            return ARGUMENT;
        }
        if (now.hoursPassed + hours > 99999) {
            return STATE;
        }
        save();
        int burning = 0;
        for (int hour = 0; hour < hours; hour++) {
            burning += passOneHour();
        }
        return told(burning);
    }

    private int passOneHour() {
        for (int f = 0; f < 4; f++) {
            int lit = lit(f);
            for (int k = 0; k < 15; k++) {
                now.hours[f][k] += lit >> (14 - k) & 1;
            }
        }
        int burning = 0;
        for (int f = 0; f < 4; f++) {
            for (int k = 0; k < 15; k++) {
                if (now.settings[1] > 0 && !now.burnt[f][k] && now.hours[f][k] >= 100 * now.settings[1]) {
                    now.burnt[f][k] = true;
                    burning++;
                }
            }
        }
        now.hoursPassed++;
        now.burntByHours += burning;
        return burning;
    }

    String set(int setting, int value) {
        if (!isIn(setting, 0, 1)) {
            return BOUNDS;
        }
        if (setting == 0 ? !isIn(value, 1, 5) : !isIn(value, 0, 99)) {
            return ARGUMENT;
        }
        save();
        int previous = now.settings[setting];
        now.settings[setting] = value;
        return told(previous);
    }

    String append(int code) {
        if (!isIn(code, 33, 126)) {
            return ARGUMENT;
        }
        if (buffer.length() == 60) {
            return STATE;
        }
        buffer += (char) code;
        return told(buffer.length());
    }

    String clearBuffer() {
        int length = buffer.length();
        buffer = "";
        return told(length);
    }

    String firstError() {
        for (int length = 1; length <= buffer.length(); length++) {
            Matcher matcher = LAMPS.matcher(buffer.substring(0, length));
            if (!matcher.matches() && !matcher.hitEnd()) {
                return told(length - 1);
            }
        }
        return told(buffer.length());
    }

    String lamps() {
        if (!LAMPS.matcher(buffer).matches()) {
            return ARGUMENT;
        }
        save();
        for (String part : buffer.split(";")) {
            for (char letter : part.substring(2).toCharArray()) {
                put(part.charAt(0) - '0', letter - 'a', part.charAt(1) == '-');
            }
        }
        buffer = "";
        return count(1);
    }

    String undo() {
        if (saved.isEmpty()) {
            return STATE;
        }
        now = saved.removeLast();
        return told(saved.size());
    }

    String field(int f, int what) {
        if (!isIn(f, 0, 3)) {
            return BOUNDS;
        }
        int[] table = isIn(what, 0, 7) ? tableOf(f) : null;
        switch (what) {
            case 0: return told(now.digits[f]);
            case 1: return told(shapeShown(f));
            case 2: return told(lit(f));
            case 3: return told(Integer.bitCount(mask(now.burnt[f])));
            case 4: {
                int shape = shapeShown(f);
                return told(shape < 0 ? 0 : Integer.bitCount(SHAPES[now.digits[f]][shape] & mask(now.burnt[f])));
            }
            case 5: {
                int mask = 0;
                for (int d = 0; d < 10; d++) {
                    mask += table[d] < 0 ? 0 : 1 << d;
                }
                return told(mask);
            }
            case 6: return told(difference(table, mask(now.burnt[f])));
            case 7: {
                int first = 0;
                while (first < 10 && table[first] >= 0) {
                    first++;
                }
                return told(first == 10 ? -1 : first);
            }
            default: return ARGUMENT;
        }
    }

    String lampOf(int f, int k, int what) {
        if (!isIn(f, 0, 3) || !isIn(k, 0, 14)) {
            return BOUNDS;
        }
        switch (what) {
            case 0: return told(now.burnt[f][k] ? 1 : 0);
            case 1: return told(now.hours[f][k]);
            case 2: return told(lit(f) >> (14 - k) & 1);
            case 3: {
                int[] table = tableOf(f);
                int sum = 0;
                for (int d = 0; d < 10; d++) {
                    sum += table[d] < 0 ? 0 : SHAPES[d][table[d]] >> (14 - k) & 1;
                }
                return told(sum);
            }
            default: return ARGUMENT;
        }
    }

    String table(int f, int d, int what) {
        if (!isIn(f, 0, 3)) {
            return BOUNDS;
        }
        if (!isIn(d, 0, 9) || !isIn(what, 0, 2)) {
            return ARGUMENT;
        }
        int shape = tableOf(f)[d];
        if (shape < 0 || what == 0) {
            return told(shape);
        }
        int burnt = mask(now.burnt[f]);
        return told(what == 1 ? SHAPES[d][shape] & ~burnt : Integer.bitCount(SHAPES[d][shape] & burnt));
    }

    String read(int f, int lamps) {
        if (!isIn(f, 0, 3)) {
            return BOUNDS;
        }
        if (!isIn(lamps, 0, 32767)) {
            return ARGUMENT;
        }
        int[] table = tableOf(f);
        for (int apart = 0; apart <= 15; apart++) {
            int digit = -1;
            int found = 0;
            for (int d = 0; d < 10; d++) {
                if (table[d] >= 0) {
                    int shown = SHAPES[d][table[d]] & ~mask(now.burnt[f]);
                    if (Integer.bitCount(shown ^ lamps) == apart) {
                        digit = d;
                        found++;
                    }
                }
            }
            if (found > 0) {
                return told(found == 1 ? digit : -1);
            }
        }
        return told(-1);
    }

    String count(int what) {
        int burnt = 0;
        int digits = 0;
        int dark = 0;
        int lit = 0;
        StringBuilder number = new StringBuilder();
        for (int f = 0; f < 4; f++) {
            burnt += Integer.bitCount(mask(now.burnt[f]));
            digits += now.digits[f] < 0 ? 0 : 1;
            dark += now.digits[f] >= 0 && shapeShown(f) < 0 ? 1 : 0;
            lit += Integer.bitCount(lit(f));
            number.append(now.digits[f] < 0 ? " " : Integer.toString(now.digits[f]));
        }
        switch (what) {
            case 0: return told(now.hoursPassed);
            case 1: return told(burnt);
            case 2: return told(digits);
            case 3: return told(dark);
            case 4: return told(lit);
            case 5: return told(now.burntByHours);
            case 6: {
                boolean isNumber = number.toString().matches(" *[0-9]+");
                return told(isNumber && dark == 0 ? Integer.parseInt(number.toString().strip()) : -1);
            }
            case 7: return told(saved.size());
            default: return ARGUMENT;
        }
    }

    String setting(int setting) {
        return isIn(setting, 0, 1) ? told(now.settings[setting]) : BOUNDS;
    }

    String ifBurnt(int f, int k, int what) {
        if (!isIn(f, 0, 3) || !isIn(k, 0, 14)) {
            return BOUNDS;
        }
        if (!isIn(what, 0, 2)) {
            return ARGUMENT;
        }
        int burnt = mask(now.burnt[f]) | 1 << (14 - k);
        int[] table = tableOf(burnt, now.settings[0]);
        return told(what == 0 ? hidden(table) : what == 1 ? changes(table, tableOf(f)) : difference(table, burnt));
    }

    String worstLamp(int f) {
        if (!isIn(f, 0, 3)) {
            return BOUNDS;
        }
        int worst = -1;
        int greatest = -1;
        for (int k = 14; k >= 0; k--) {
            int rank = now.burnt[f][k] ? -2 : rankOf(f, k);
            if (rank >= greatest) {
                greatest = rank;
                worst = k;
            }
        }
        return told(worst);
    }

    private int rankOf(int f, int k) {
        int[] table = tableOf(mask(now.burnt[f]) | 1 << (14 - k), now.settings[0]);
        return 100 * hidden(table) + changes(table, tableOf(f));
    }

    String strictest(int f) {
        if (!isIn(f, 0, 3)) {
            return BOUNDS;
        }
        int greatest = 0;
        for (int apart = 1; apart <= 5; apart++) {
            greatest = hidden(tableOf(mask(now.burnt[f]), apart)) == 0 ? apart : greatest;
        }
        return told(greatest);
    }

    /** Behind the hours of a life each lit lamp is burnt, so none burns later than that. */
    String nextBurn() {
        State before = now;
        now = now.copy();
        int answer = -1;
        for (int hour = 1; hour <= 100 * now.settings[1] && answer < 0; hour++) {
            answer = passOneHour() > 0 ? hour : -1;
        }
        now = before;
        return told(answer);
    }

    String clarity() {
        int shown = 0;
        for (int f = 0; f < 4; f++) {
            shown += 10 - hidden(tableOf(f));
        }
        return Double.toString(shown / 40.0);
    }

    String digest() {
        long hash = 2801;
        for (int what = 0; what < 8; what++) {
            hash = with(hash, count(what));
        }
        hash = with(with(hash, setting(0)), setting(1));
        for (int f = 0; f < 4; f++) {
            for (int what = 0; what < 8; what++) {
                hash = with(hash, field(f, what));
            }
            for (int i = 0; i < 30; i++) {
                hash = with(hash, table(f, i / 3, i % 3));
            }
            for (int i = 0; i < 60; i++) {
                hash = with(hash, lampOf(f, i / 4, i % 4));
            }
            hash = with(with(with(hash, worstLamp(f)), strictest(f)), read(f, 21845));
        }
        hash = with(hash, nextBurn());
        hash = 31 * hash + Double.doubleToLongBits(Double.parseDouble(clarity()));
        hash = 31 * hash + buffer.length();
        for (char c : buffer.toCharArray()) {
            hash = 31 * hash + c;
        }
        return told(hash);
    }

    private static long with(long hash, String answer) {
        return 31 * hash + Long.parseLong(answer);
    }
}
