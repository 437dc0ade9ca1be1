import java.util.Arrays;
import java.util.Random;

/** All promises: runs of 512 calls, the same each time, compared with the slow desk. */
public final class RandomRunsTest {
    private static final int LINES = 11;
    private static final int WORDINGS = 19;

    /** A call's name, how often it comes, and for each argument the least and the most that it is drawn from. */
    private static final Object[][] CALLS = {
        {"line", 4, 0, 5},
        {"frame", 20, 0, LINES, 0, 3},
        {"wording", 6, 0, LINES, 0, 3, 0, 100},
        {"as", 2, 0, WORDINGS, 0, 3},
        {"syllable", 16, 0, WORDINGS, 0, 3, 1, 6, 1, 6, 0, 31},
        {"cut", 3, 0, WORDINGS},
        {"of", 3, 0, WORDINGS, 0, 3},
        {"told", 3, 0, LINES, 0, 2},
        {"shape", 3, 0, LINES, 0, 23},
        {"cost", 8, 0, WORDINGS},
        {"place", 8, 0, WORDINGS, 0, 7, 0, 1},
        {"on", 8, 0, WORDINGS, 0, 23},
        {"name", 5, 0, 31, -1, 7},
        {"text", 6, 0, 2, 0, 2, 0, 31, 0, 999},
        {"barred", 4, 0, 2, 0, 31, 0, 999},
        {"chosen", 4, 0, 2, 0, 7, 0, 999},
        {"lawful", 5, 0, WORDINGS, 0, 2, 0, 999},
        {"best", 5, 0, LINES, 0, 2, 0, 999},
        {"worth", 3, 0, 2, 0, 999},
        {"actor", 4, 0, 5, -1, 7},
        {"free", 4, 0, 7, 0, 15},
        {"room", 4, 0, 3, 0, 100},
        {"loop", 3, 1, 4095},
        {"unloop", 1},
        {"plan", 3},
        {"planned", 3, 0, 6},
        {"plans", 3},
        {"change", 2, 0, LINES, 0, 3},
        {"kept", 3, 0, LINES, 0, LINES},
        {"sheet", 2, 0, 3, 0, 32, 0, 30},
        {"put", 6, 0, 3, 0, 29, -9, 9},
        {"copy", 3, 0, 3, 0, 20, 0, 3, 0, 20, 0, 9},
        {"undo", 6},
        {"all", 3, 0, 4},
    };

    /** The most that an argument is drawn from in a small run: such runs meet the same things more often. */
    private static final int SMALL = 3;

    private final Random random;
    private final boolean small;
    private final DubDesk desk = new DubDesk();
    private final SlowDesk slow = new SlowDesk();

    private RandomRunsTest(int seed) {
        random = new Random(seed);
        small = seed % 3 == 0;
    }

    public static void main(String[] args) {
        for (int seed = 0; seed < 240; seed++) {
            new RandomRunsTest(seed).run(seed);
        }
        for (int seed = 0; seed < 12; seed++) {
            new RandomRunsTest(seed).runOn();
        }
        Check.end();
    }

    private void run(int seed) {
        for (int i = 0; i < 512; i++) {
            Object[] call = draw();
            int[] a = drawArguments(call);
            String told = "seed " + seed + ", call " + i + ": " + call[0] + Arrays.toString(a);
            Check.due(told, ask((String) call[0], a), slow.ask((String) call[0], a));
        }
    }

    /** Behind the 512th call answers are free, but no call may throw or fail to end. */
    private void runOn() {
        int answered = 0;
        for (int i = 0; i < 4096; i++) {
            Object[] call = draw();
            int[] a = drawArguments(call);
            ask((String) call[0], a);
            slow.ask((String) call[0], a);
            answered++;
        }
        Check.due("calls that came to an end", answered, 4096);
    }

    private Object[] draw() {
        int sum = 0;
        for (Object[] call : CALLS) {
            sum += (Integer) call[1];
        }
        int at = random.nextInt(sum);
        for (Object[] call : CALLS) {
            at -= (Integer) call[1];
            if (at < 0) {
                return call;
            }
        }
        return CALLS[0];
    }

    private int[] drawArguments(Object[] call) {
        int[] a = new int[(call.length - 2) / 2];
        for (int i = 0; i < a.length; i++) {
            a[i] = drawNumber((Integer) call[2 + 2 * i], (Integer) call[3 + 2 * i]);
        }
        // Drawn freely, most lines, wordings, bits and loops would be refused.
        for (int i = 0; i < a.length; i++) {
            a[i] = drawSuchAsIs(a[i], (Integer) call[3 + 2 * i]);
        }
        if (call[0].equals("sheet") && random.nextInt(12) != 0) {
            a[1] = new int[] {0, 8, 8, 16, 32}[random.nextInt(5)];
        }
        if (call[0].equals("loop") && random.nextInt(12) != 0) {
            a[0] &= (1 << howMany(0)) - 1;
        }
        return a;
    }

    private int drawSuchAsIs(int drawn, int most) {
        int count = most == LINES ? howMany(0) : most == WORDINGS ? howMany(1) : 0;
        return count == 0 || random.nextInt(12) == 0 ? drawn : Math.floorMod(drawn, count);
    }

    /** Asks the slow desk: the other one has only 512 calls. */
    private int howMany(int what) {
        return slow.ask("all", new int[] {what});
    }

    private int drawNumber(int least, int most) {
        int luck = random.nextInt(60);
        if (luck == 0) {
            return least - 1;
        }
        if (luck == 1) {
            return most + 1;
        }
        if (luck == 2) {
            return random.nextBoolean() ? Integer.MAX_VALUE : Integer.MIN_VALUE;
        }
        if (luck < 6) {
            return random.nextBoolean() ? least : most;
        }
        int reach = small || random.nextInt(2) == 0 ? Math.min(most, SMALL) : most;
        return least + random.nextInt(reach - least + 1);
    }

    private int ask(String call, int[] a) {
        switch (call) {
            case "line": return desk.line(a[0]);
            case "frame": return desk.frame(a[0], a[1]);
            case "wording": return desk.wording(a[0], a[1], a[2]);
            case "as": return desk.as(a[0], a[1]);
            case "syllable": return desk.syllable(a[0], a[1], a[2], a[3], a[4]);
            case "cut": return desk.cut(a[0]);
            case "of": return desk.of(a[0], a[1]);
            case "told": return desk.told(a[0], a[1]);
            case "shape": return desk.shape(a[0], a[1]);
            case "cost": return desk.cost(a[0]);
            case "place": return desk.place(a[0], a[1], a[2] == 1);
            case "on": return desk.on(a[0], a[1]);
            case "name": return desk.name(a[0], a[1]);
            case "text": return desk.text(a[0], a[1], a[2], a[3]);
            case "barred": return desk.barred(a[0], a[1], a[2]);
            case "chosen": return desk.chosen(a[0], a[1], a[2]);
            case "lawful": return desk.lawful(a[0], a[1], a[2]);
            case "best": return desk.best(a[0], a[1], a[2]);
            case "worth": return desk.worth(a[0], a[1]);
            default: return askOthers(call, a);
        }
    }

    private int askOthers(String call, int[] a) {
        switch (call) {
            case "actor": return desk.actor(a[0], a[1]);
            case "free": return desk.free(a[0], a[1]);
            case "room": return desk.room(a[0], a[1]);
            case "loop": return desk.loop(a[0]);
            case "unloop": return desk.unloop();
            case "plan": return desk.plan();
            case "planned": return desk.planned(a[0]);
            case "plans": return desk.plans();
            case "change": return desk.change(a[0], a[1]);
            case "kept": return desk.kept(a[0], a[1]);
            case "sheet": return desk.sheet(a[0], a[1], a[2]);
            case "put": return desk.put(a[0], a[1], a[2]);
            case "copy": return desk.copy(a[0], a[1], a[2], a[3], a[4]);
            case "undo": return desk.undo();
            default: return desk.all(a[0]);
        }
    }
}
