import java.util.Random;

/** Runs of chosen-by-seed calls, each answered as the plain model of the document answers it. */
public final class ModelTest {
    private static final int RUNS = 800;
    /** What later calls answer is free. */
    private static final int MOST_CALLS = 512;
    /** What one turn may need: the longest text that is written, and looks at it. */
    private static final int CALLS_A_TURN = 32;
    private static final int DIGEST_EACH = 8;

    private final Random random;
    private final BulbShapes x = new BulbShapes();
    private final Model model = new Model();
    private final int longestLife;
    private int calls = 0;

    private ModelTest(long seed) {
        random = new Random(seed);
        longestLife = seed % 20 == 0 ? 100 : 3;
    }

    public static void main(String[] args) {
        for (int seed = 1; seed <= RUNS; seed++) {
            new ModelTest(seed).run(seed);
        }
        Check.end();
    }

    private void run(int seed) {
        for (int i = 0; calls <= MOST_CALLS - CALLS_A_TURN; i++) {
            String where = "run " + seed + ", call " + calls + ": ";
            if (random.nextInt(10) < 6) {
                change(where);
            } else {
                look(where);
            }
            if (i % DIGEST_EACH == 0) {
                compare(where + "digest()", x::digest, model.digest());
            }
        }
    }

    private void compare(String call, Check.Call got, String want) {
        calls++;
        Check.due(call, Check.told(got), want);
    }

    /** Mostly 0 to bound - 1, at times just outside, seldom far away. */
    private int near(int bound) {
        int dice = random.nextInt(200);
        if (dice == 0) {
            return random.nextInt();
        }
        return dice < 5 ? -1 : dice < 9 ? bound : random.nextInt(bound);
    }

    private void change(String where) {
        int f = near(4);
        int k = near(15);
        switch (random.nextInt(12)) {
            case 0: {
                int digit = near(11) - 1;
                compare(where + "show(" + f + ", " + digit + ")", () -> x.show(f, digit), model.show(f, digit));
                break;
            }
            case 1: {
                int number = near(10000) >> random.nextInt(12);
                compare(where + "number(" + number + ")", () -> x.number(number), model.number(number));
                break;
            }
            case 2: case 3: case 4: {
                boolean isBurnt = random.nextInt(3) > 0;
                String call = "lamp(" + f + ", " + k + ", " + isBurnt + ")";
                compare(where + call, () -> x.lamp(f, k, isBurnt), model.lamp(f, k, isBurnt));
                break;
            }
            case 5: {
                if (random.nextInt(3) == 0) {
                    compare(where + "mend(" + f + ")", () -> x.mend(f), model.mend(f));
                }
                break;
            }
            case 6: case 7: {
                int hours = near(501) >> random.nextInt(3);
                compare(where + "pass(" + hours + ")", () -> x.pass(hours), model.pass(hours));
                break;
            }
            case 8: {
                int setting = near(2);
                int value = setting == 1 ? near(longestLife) : near(6);
                String call = "set(" + setting + ", " + value + ")";
                compare(where + call, () -> x.set(setting, value), model.set(setting, value));
                break;
            }
            case 9: case 10: {
                write(where);
                break;
            }
            default: {
                if (random.nextInt(2) == 0) {
                    compare(where + "undo()", x::undo, model.undo());
                }
            }
        }
    }

    /** Lamps as a text, at times with one wrong character, at times without its end. */
    private void write(String where) {
        StringBuilder text = new StringBuilder();
        for (int part = random.nextInt(3); part >= 0; part--) {
            text.append((char) ('0' + random.nextInt(4))).append(random.nextInt(3) == 0 ? '+' : '-');
            for (int letter = random.nextInt(4); letter >= 0; letter--) {
                text.append((char) ('a' + random.nextInt(15)));
            }
            text.append(part == 0 ? "" : ";");
        }
        if (random.nextInt(4) == 0) {
            text.setCharAt(random.nextInt(text.length()), (char) (30 + random.nextInt(100)));
        }
        if (random.nextInt(4) == 0) {
            text.setLength(random.nextInt(text.length()));
        }
        for (int i = 0; i < text.length(); i++) {
            int code = text.charAt(i);
            compare(where + "append(" + code + ")", () -> x.append(code), model.append(code));
        }
        compare(where + "firstError()", x::firstError, model.firstError());
        if (random.nextInt(5) > 0) {
            compare(where + "lamps() of " + text, x::lamps, model.lamps());
        }
        if (random.nextInt(3) > 0) {
            compare(where + "clearBuffer()", x::clearBuffer, model.clearBuffer());
        }
    }

    private void look(String where) {
        int f = near(4);
        int k = near(15);
        int d = near(10);
        switch (random.nextInt(11)) {
            case 0: {
                int what = near(8);
                compare(where + "field(" + f + ", " + what + ")", () -> x.field(f, what), model.field(f, what));
                break;
            }
            case 1: {
                int what = near(4);
                String call = "lampOf(" + f + ", " + k + ", " + what + ")";
                compare(where + call, () -> x.lampOf(f, k, what), model.lampOf(f, k, what));
                break;
            }
            case 2: {
                int what = near(3);
                String call = "table(" + f + ", " + d + ", " + what + ")";
                compare(where + call, () -> x.table(f, d, what), model.table(f, d, what));
                break;
            }
            case 3: {
                int lamps = near(32768);
                compare(where + "read(" + f + ", " + lamps + ")", () -> x.read(f, lamps), model.read(f, lamps));
                break;
            }
            case 4: {
                int what = near(8);
                compare(where + "count(" + what + ")", () -> x.count(what), model.count(what));
                break;
            }
            case 5: {
                int setting = near(2);
                compare(where + "setting(" + setting + ")", () -> x.setting(setting), model.setting(setting));
                break;
            }
            case 6: {
                int what = near(3);
                String call = "ifBurnt(" + f + ", " + k + ", " + what + ")";
                compare(where + call, () -> x.ifBurnt(f, k, what), model.ifBurnt(f, k, what));
                break;
            }
            case 7: {
                compare(where + "worstLamp(" + f + ")", () -> x.worstLamp(f), model.worstLamp(f));
                break;
            }
            case 8: {
                compare(where + "strictest(" + f + ")", () -> x.strictest(f), model.strictest(f));
                break;
            }
            case 9: {
                compare(where + "nextBurn()", x::nextBurn, model.nextBurn());
                break;
            }
            default: {
                compare(where + "clarity()", x::clarity, model.clarity());
            }
        }
    }
}
