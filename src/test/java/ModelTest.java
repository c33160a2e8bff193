import java.util.Random;

/** All promises: runs of 512 calls by draws of a fixed seed, each answer held against the model's. */
public final class ModelTest {
    private static final Check CHECK = new Check("ModelTest");
    private static final int RUNS = 200;
    private static final int CALLS = 512;

    private final Random random;
    private final NumberEleven x = new NumberEleven();
    private final Model y = new Model();
    private String log = "";
    private int calls;

    private ModelTest(int seed) {
        random = new Random(seed);
    }

    public static void main(String[] args) {
        for (int seed = 0; seed < RUNS; seed++) {
            new ModelTest(seed).run(seed);
        }
        CHECK.end();
    }

    private void run(int seed) {
        if (seed % 4 != 0) {
            writeText(seed);
            due("lay()", x.lay(), y.lay());
        }
        while (calls < CALLS) {
            log = "seed " + seed + ", call " + calls + ": ";
            if (random.nextInt(120) == 0 && calls + 205 < CALLS) {
                writeText(seed);
                due("lay()", x.lay(), y.lay());
            } else if (y.count(2) < 2 && random.nextInt(6) == 0) {
                crowd();
            } else if (random.nextInt(3) == 0) {
                act();
            } else {
                ask();
            }
        }
    }

    private void due(String call, int got, int want) {
        calls++;
        CHECK.due(log + call, got, want);
    }

    /** Mostly in the range, now and then at its edges, beyond it, or far out. */
    private int from(int least, int most) {
        switch (random.nextInt(24)) {
            case 0: return least - 1;
            case 1: return most + 1;
            case 2: return random.nextInt();
            case 3: return least;
            case 4: return most;
            default: return least + random.nextInt(most - least + 1);
        }
    }

    private int caller() {
        return from(0, y.count(0) - 1);
    }

    /** Mostly one who is as told (1 WAITS, 4 GAVE UP, ..), if there is one. */
    private int callerWho(int state) {
        int first = caller();
        for (int i = 0; i < 8 && random.nextInt(20) != 0; i++) {
            int c = Math.floorMod(first, 8) + i & 7;
            if (y.caller(c, 4) == state) {
                return c;
            }
        }
        return first;
    }

    /** The line would run empty: whoever left calls again. */
    private void crowd() {
        for (int c = 0; c < y.count(0); c++) {
            if (y.caller(c, 4) >= 3 && random.nextInt(4) != 0) {
                due("recall(" + c + ")", x.recall(c), y.recall(c));
            }
        }
    }

    private void writeText(int seed) {
        due("wipe()", x.wipe(), y.wipe());
        StringBuilder text = new StringBuilder();
        int most = random.nextInt(4) == 0 ? 1 + random.nextInt(8) : 6 + random.nextInt(3);
        int late = random.nextInt(3) == 0 ? 40 : 1 + random.nextInt(8);
        int long30 = random.nextInt(3) == 0 ? 30 : 1 + random.nextInt(12);
        for (int i = 0; i < most; i++) {
            text.append('c').append(random.nextInt(4)).append(',').append(random.nextInt(late + 1)).append(',')
                .append(1 + random.nextInt(long30)).append(',').append(random.nextInt(seed % 2 == 0 ? 61 : 4)).append(';');
        }
        if (random.nextInt(5) != 0) {
            text.append('s').append(1 + random.nextInt(random.nextInt(4) == 0 ? 4 : 1)).append(',')
                .append(1 + random.nextInt(random.nextInt(2) == 0 ? 20 : 5)).append(';');
        }
        text.append(random.nextInt(4) == 0 ? "" : "r" + random.nextInt(3) + ";");
        if (random.nextInt(6) == 0) {
            text.setCharAt(random.nextInt(text.length()), "crs0123456789,;, -".charAt(random.nextInt(18)));
        }
        for (int i = 0; i < text.length(); i++) {
            due("write", x.write(text.charAt(i)), y.write(text.charAt(i)));
        }
        due("fault() of " + text, x.fault(), y.fault());
    }

    private void act() {
        int a;
        switch (random.nextInt(14)) {
            case 0: case 1: case 2:
                a = random.nextInt(3) == 0 ? from(1, 40) : 1 + random.nextInt(4);
                due("pass(" + a + ")", x.pass(a), y.pass(a));
                break;
            case 3:
                a = callerWho(random.nextInt(4) == 0 ? 2 : 1);
                due("hang(" + a + ")", x.hang(a), y.hang(a));
                break;
            case 4: case 5: case 6: case 7:
                a = callerWho(random.nextInt(4) == 0 ? 3 : 4);
                due("recall(" + a + ")", x.recall(a), y.recall(a));
                break;
            case 8:
                a = from(0, 1);
                due("staff(" + a + ")", x.staff(a), y.staff(a));
                break;
            case 9:
                a = from(0, 2);
                due("rule(" + a + ")", x.rule(a), y.rule(a));
                break;
            case 10: case 11:
                due("undo()", x.undo(), y.undo());
                break;
            case 12:
                due("keep()", x.keep(), y.keep());
                break;
            default:
                due("back()", x.back(), y.back());
                break;
        }
    }

    private void ask() {
        int c = random.nextBoolean() ? caller() : callerWho(1);
        int what = from(0, 1);
        switch (random.nextInt(9)) {
            case 0: askNow(c); break;
            case 1: askOf(c, what); break;
            case 2: askAll(what); break;
            case 3: askSeen(c); break;
            case 4: askChances(c, what); break;
            case 5:
                c = callerWho(1);
                due("again(" + c + ", " + what + ")", x.again(c, what), y.again(c, what));
                break;
            case 6:
                due("bears(" + c + ", " + what + ")", x.bears(c, what), y.bears(c, what));
                due("kinds(" + c + ")", x.kinds(c), y.kinds(c));
                break;
            case 7:
                due("fault()", x.fault(), y.fault());
                break;
            default:
                int letter = from(32, 126);
                due("write(" + letter + ")", x.write(letter), y.write(letter));
                break;
        }
    }

    private void askNow(int c) {
        int what = from(0, 6);
        due("caller(" + c + ", " + what + ")", x.caller(c, what), y.caller(c, what));
        what = from(0, 12);
        due("count(" + what + ")", x.count(what), y.count(what));
    }

    private void askOf(int c, int what) {
        int n = from(0, 60);
        due("behind(" + n + ", " + c + ")", x.behind(n, c), y.behind(n, c));
        due("taken(" + c + ")", x.taken(c), y.taken(c));
        due("left(" + c + ")", x.left(c), y.left(c));
        due("number(" + c + ")", x.number(c), y.number(c));
    }

    private void askAll(int what) {
        due("best(" + what + ")", x.best(what), y.best(what));
        due("needed()", x.needed(), y.needed());
        due("lost()", x.lost(), y.lost());
        due("helps(" + what + ")", x.helps(what), y.helps(what));
        due("longest(" + what + ")", x.longest(what), y.longest(what));
    }

    private void askSeen(int c) {
        int t = from(1, random.nextBoolean() ? 40 : 8);
        int gave = random.nextInt(3) == 0 ? from(0, 1) : y.behind(t, c) == 4 ? 1 : 0;
        if (random.nextInt(4) == 0) {
            due("forget()", x.forget(), y.forget());
        } else {
            due("seen(" + c + ", " + t + ", " + gave + ")", x.seen(c, t, gave), y.seen(c, t, gave));
        }
    }

    private void askChances(int c, int part) {
        int tenths = from(0, 10);
        due("likely(" + c + ", " + tenths + ", " + part + ")", x.likely(c, tenths, part), y.likely(c, tenths, part));
        int z = from(0, 9999);
        int n = from(1, 60);
        int what = from(0, 2);
        due("day(" + z + ", " + n + ", " + what + ")", x.day(z, n, what), y.day(z, n, what));
    }
}
