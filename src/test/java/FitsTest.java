import java.util.ArrayList;
import java.util.List;
import java.util.Random;

/** Promises 11 to 13: cost, place and on, by hand and against all fits of small lines. */
public final class FitsTest {
    public static void main(String[] args) {
        withoutSyllables();
        costsOfKinds();
        sungOnesAreShort();
        earliestThenShortest();
        onFrames();
        tooFewFrames();
        wrongInputs();
        fullLines();
        againstAllFits();
        Check.end();
    }

    private static void withoutSyllables() {
        for (int kind = 0; kind < 4; kind++) {
            DubDesk x = Check.deskWithLine(0, 1, 2, 3, 0);
            x.wording(0, kind, 0);
            Check.due("pauses alone, kind " + kind, x.cost(0), 6);
            Check.due("a pause", x.on(0, 1), -1);
        }
        DubDesk x = Check.deskWithLine();
        x.wording(0, 0, 0);
        Check.due("no frames", x.cost(0), 0);
    }

    /** One syllable over the only frame: its cost is that of the pair. */
    private static void costsOfKinds() {
        int[] withClosed = {3, 3, 0, 0};
        int[] other = {1, 1, 0, 1};
        for (int kind = 0; kind < 4; kind++) {
            for (int frame = 0; frame < 4; frame++) {
                for (int shape = 0; shape < 4; shape++) {
                    DubDesk x = Check.deskWithLine(frame);
                    x.wording(0, kind, 0);
                    x.syllable(0, shape, 1, 1, 0);
                    int due = frame == shape ? 0 : frame == 0 || shape == 0 ? withClosed[kind] : other[kind];
                    Check.due("kind " + kind + ", " + shape + " on " + frame, x.cost(0), due);
                }
            }
        }
    }

    private static void sungOnesAreShort() {
        int[] cost = {0, 2, 0, 2};
        int[] length = {3, 2, 3, 2};
        for (int kind = 0; kind < 4; kind++) {
            DubDesk x = Check.deskWithLine(1, 1, 1);
            x.wording(0, kind, 0);
            x.syllable(0, 1, 2, 3, 0);
            Check.due("cost of kind " + kind, x.cost(0), cost[kind]);
            Check.due("length of kind " + kind, x.place(0, 0, true), length[kind]);
            Check.due("begin of kind " + kind, x.place(0, 0, false), 0);
        }
    }

    private static void earliestThenShortest() {
        DubDesk x = Check.deskWithLine(0, 0, 0, 0);
        x.wording(0, 0, 0);
        x.syllable(0, 0, 1, 3, 0);
        x.syllable(0, 0, 2, 3, 0);
        Check.due("cost", x.cost(0), 0);
        Check.due("first begins", x.place(0, 0, false), 0);
        Check.due("first is short", x.place(0, 0, true), 1);
        Check.due("second begins", x.place(0, 1, false), 1);
        Check.due("second is short", x.place(0, 1, true), 2);
        DubDesk y = Check.deskWithLine(2, 1, 0, 1, 2);
        y.wording(0, 0, 0);
        y.syllable(0, 1, 1, 1, 0);
        Check.due("of equal ones the first", y.place(0, 0, false), 1);
        DubDesk z = Check.deskWithLine(1, 2, 0);
        z.wording(0, 0, 0);
        z.syllable(0, 3, 1, 1, 0);
        Check.due("cost of either", z.cost(0), 3);
        Check.due("begins earliest though as dear", z.place(0, 0, false), 0);
    }

    private static void onFrames() {
        DubDesk x = Check.deskWithLine(0, 1, 1, 0, 2, 2);
        x.wording(0, 0, 0);
        x.syllable(0, 1, 1, 4, 0);
        x.syllable(0, 2, 1, 4, 0);
        int[] due = {-1, 0, 0, -1, 1, 1};
        for (int i = 0; i < due.length; i++) {
            Check.due("on(0, " + i + ")", x.on(0, i), due[i]);
        }
        Check.due("a pause is no finding", x.all(4), 0);
        x.cut(0);
        Check.due("after the cut", x.on(0, 4), -1);
    }

    private static void tooFewFrames() {
        DubDesk x = Check.deskWithLine(0, 0, 0);
        x.wording(0, 0, 0);
        x.syllable(0, 0, 2, 6, 0);
        x.syllable(0, 0, 1, 6, 0);
        Check.due("just enough", x.cost(0), 0);
        Check.due("second", x.place(0, 1, false), 2);
        x.syllable(0, 0, 1, 1, 0);
        Check.due("cost of none", x.cost(0), Check.NONE);
        Check.due("place of none", x.place(0, 2, true), Check.NONE);
        Check.due("on of none", x.on(0, 0), Check.NONE);
        Check.due("BEYOND ahead of NONE", x.place(0, 3, false), Check.BEYOND);
        Check.due("BEYOND ahead of NONE", x.on(0, 3), Check.BEYOND);
        x.frame(0, 0);
        Check.due("one frame more", x.cost(0), 0);
    }

    private static void wrongInputs() {
        DubDesk x = Check.deskWithLine(1, 1);
        Check.due("cost without wording", x.cost(0), Check.BEYOND);
        x.line(0);
        x.wording(0, 0, 0);
        x.wording(1, 0, 0);
        x.syllable(0, 1, 1, 1, 0);
        int[] wrong = {-1, 2, Integer.MAX_VALUE, Integer.MIN_VALUE};
        for (int i : wrong) {
            Check.due("cost(" + i + ")", x.cost(i), Check.BEYOND);
            Check.due("place(" + i + ")", x.place(i, 0, false), Check.BEYOND);
            Check.due("place(0, " + i + ")", x.place(0, i, true), Check.BEYOND);
            Check.due("on(" + i + ")", x.on(i, 0), Check.BEYOND);
            Check.due("on(0, " + i + ")", x.on(0, i), Check.BEYOND);
        }
        Check.due("no such syllable", x.place(0, 1, false), Check.BEYOND);
        Check.due("the other line has no frame", x.on(1, 0), Check.BEYOND);
    }

    private static void fullLines() {
        DubDesk x = new DubDesk();
        x.line(0);
        x.wording(0, 0, 0);
        for (int i = 0; i < 24; i++) {
            x.frame(0, 1);
        }
        for (int i = 0; i < 8; i++) {
            x.syllable(0, 1, 3, 6, 0);
        }
        Check.due("all frames full", x.cost(0), 0);
        Check.due("last begins", x.place(0, 7, false), 21);
        Check.due("last frame", x.on(0, 23), 7);
        x.cut(0);
        x.syllable(0, 0, 3, 6, 0);
        Check.due("three closed ones", x.cost(0), 9);
    }

    private static void againstAllFits() {
        Random random = new Random(7);
        for (int round = 0; round < 1500; round++) {
            int[] frames = new int[random.nextInt(11)];
            for (int i = 0; i < frames.length; i++) {
                frames[i] = random.nextInt(4);
            }
            int kind = random.nextInt(4);
            int[][] syllables = new int[random.nextInt(5)][];
            for (int i = 0; i < syllables.length; i++) {
                int least = 1 + random.nextInt(3);
                int most = Math.min(6, least + random.nextInt(4));
                syllables[i] = new int[] {random.nextInt(4), least, most};
            }
            compare(frames, kind, syllables);
        }
    }

    private static void compare(int[] frames, int kind, int[][] syllables) {
        DubDesk x = Check.deskWithLine(frames);
        x.wording(0, kind, 0);
        for (int[] s : syllables) {
            x.syllable(0, s[0], s[1], s[2], 0);
        }
        List<int[]> fits = new ArrayList<>();
        collect(frames.length, kind, syllables, 0, new int[2 * syllables.length], fits);
        int[] best = null;
        int least = Integer.MAX_VALUE;
        for (int[] candidate : fits) {
            int cost = costOf(frames, kind, syllables, candidate);
            if (cost < least) {
                least = cost;
                best = candidate;
            }
        }
        Check.due("cost", x.cost(0), best == null ? Check.NONE : least);
        for (int i = 0; i < syllables.length; i++) {
            Check.due("begin", x.place(0, i, false), best == null ? Check.NONE : best[2 * i]);
            Check.due("length", x.place(0, i, true), best == null ? Check.NONE : best[2 * i + 1]);
        }
        for (int f = 0; f < frames.length; f++) {
            Check.due("on", x.on(0, f), best == null ? Check.NONE : lyingOn(best, f));
        }
    }

    /** All fits, those that begin earliest and are shortest first. */
    private static void collect(int end, int kind, int[][] syllables, int i, int[] laid, List<int[]> fits) {
        if (i == syllables.length) {
            fits.add(laid.clone());
            return;
        }
        int from = i == 0 ? 0 : laid[2 * i - 2] + laid[2 * i - 1];
        int most = kind % 2 == 1 ? syllables[i][1] : syllables[i][2];
        for (int begin = from; begin < end; begin++) {
            for (int length = syllables[i][1]; length <= most && begin + length <= end; length++) {
                laid[2 * i] = begin;
                laid[2 * i + 1] = length;
                collect(end, kind, syllables, i + 1, laid, fits);
            }
        }
    }

    private static int costOf(int[] frames, int kind, int[][] syllables, int[] laid) {
        int cost = 0;
        for (int f = 0; f < frames.length; f++) {
            int i = lyingOn(laid, f);
            if (i < 0) {
                cost += frames[f] != 0 ? 2 : 0;
            } else if (syllables[i][0] != frames[f] && kind != 2) {
                boolean closed = syllables[i][0] == 0 || frames[f] == 0;
                cost += !closed ? 1 : kind == 3 ? 0 : 3;
            }
        }
        return cost;
    }

    private static int lyingOn(int[] laid, int frame) {
        for (int i = 0; i < laid.length / 2; i++) {
            if (frame >= laid[2 * i] && frame < laid[2 * i] + laid[2 * i + 1]) {
                return i;
            }
        }
        return -1;
    }
}
