/** A test for each sentence of promises 11 to 13, and of the terms' first item: lines, wordings, fits. */
public final class EdgesOfFitsTest {
    private static final int[] COST_OF_CLOSED = {3, 3, 0, 0};
    private static final int[] COST_OF_OTHER = {1, 1, 0, 1};

    public static void main(String[] args) throws Exception {
        Sentences of = new Sentences();
        of.term(1, "SHAPES of lips", EdgesOfFitsTest::shapesOfLips);
        of.term(1, "LINES 0, 1", EdgesOfFitsTest::lines);
        of.term(1, "WORDINGS 0, 1", EdgesOfFitsTest::wordings);
        of.term(1, "A FIT lays", EdgesOfFitsTest::aFit);
        of.term(1, "COST:", EdgesOfFitsTest::costs);
        of.term(1, "THE FIT:", EdgesOfFitsTest::theFit);
        of.term(1, "(Without SYLLABLES", EdgesOfFitsTest::withoutSyllables);
        of.term(1, "There is none", EdgesOfFitsTest::tooFewFrames);
        of.endOfTerms(1);
        of.promise(11, "COST of THE FIT.", EdgesOfFitsTest::cost);
        of.promise(11, "BEYOND.", EdgesOfFitsTest::costBeyond);
        of.promise(11, "NONE: there is none.", EdgesOfFitsTest::costNone);
        of.order(11, EdgesOfFitsTest::costOrder);
        of.promise(12, "Of THE FIT, of SYLLABLE i: on which FRAME it begins (long: on how many it lies).",
            EdgesOfFitsTest::place);
        of.promise(12, "BEYOND: no such WORDING, or SYLLABLE.", EdgesOfFitsTest::placeBeyond);
        of.promise(12, "NONE.", EdgesOfFitsTest::placeNone);
        of.order(12, EdgesOfFitsTest::placeOrder);
        of.promise(13, "Which SYLLABLE lies on FRAME i of its LINE in THE FIT (-1: a PAUSE, no finding).",
            EdgesOfFitsTest::on);
        of.promise(13, "BEYOND: no such WORDING, or FRAME.", EdgesOfFitsTest::onBeyond);
        of.promise(13, "NONE.", EdgesOfFitsTest::onNone);
        of.order(13, EdgesOfFitsTest::onOrder);
        of.endOfPromises(11, 13);
        Check.end();
    }

    /** Wording 0 of this kind on a line with these frames; each syllable as shape, least, most. */
    private static DubDesk laid(int kind, int[] frames, int[]... syllables) {
        DubDesk x = Check.deskWithLine(frames);
        x.wording(0, kind, 0);
        for (int[] s : syllables) {
            x.syllable(0, s[0], s[1], s[2], 0);
        }
        return x;
    }

    private static int[] frames(int... shapes) {
        return shapes;
    }

    private static int[] same(int count, int shape) {
        int[] frames = new int[count];
        java.util.Arrays.fill(frames, shape);
        return frames;
    }

    private static int[] s(int shape, int least, int most) {
        return new int[] {shape, least, most};
    }

    /** Its cost, and of each syllable the begin and the length. */
    private static void dueFit(String what, DubDesk x, int cost, int... places) {
        Check.due(what + ": cost", x.cost(0), cost);
        for (int i = 0; i < places.length / 2; i++) {
            Check.due(what + ": begin of " + i, x.place(0, i, false), places[2 * i]);
            Check.due(what + ": length of " + i, x.place(0, i, true), places[2 * i + 1]);
        }
    }

    private static void shapesOfLips() {
        for (int shape = 0; shape <= 3; shape++) {
            DubDesk x = laid(0, frames(shape), s(shape, 1, 1));
            Check.due("a frame of it", x.shape(0, 0), shape);
            Check.due("a syllable of it", x.cost(0), 0);
            x.cut(0);
            Check.due("only 0 is closed", x.cost(0), shape == 0 ? 0 : 2);
        }
        Edges.range("frame", Desks.SOME, 0, 3, (x, v) -> x.frame(0, v));
        Edges.range("syllable", Desks.SOME, 0, 3, (x, v) -> x.syllable(3, v, 6, 6, 31));
    }

    private static void lines() {
        DubDesk x = new DubDesk();
        for (int i = 0; i < 12; i++) {
            Check.due("line", x.line(5 - i % 6), i);
        }
        Check.due("a thirteenth", x.line(0), Check.FULL);
        for (int line = 0; line < 12; line++) {
            Check.due("part", x.told(line, 0), 5 - line % 6);
            for (int i = 1; i <= 24; i++) {
                Check.due("frame", x.frame(line, (line + i) % 4), i);
            }
        }
        for (int line = 0; line < 12; line++) {
            Check.due("a 25th", x.frame(line, 0), Check.FULL);
            Check.due("the last", x.shape(line, 23), (line + 24) % 4);
        }
    }

    private static void wordings() {
        DubDesk x = Desks.lines(2).make();
        for (int i = 0; i < 20; i++) {
            Check.due("wording", x.wording(i % 2, i % 4, i < 10 ? i : 81 + i), i);
        }
        Check.due("one more", x.wording(0, 0, 0), Check.FULL);
        Check.due("sense 0", x.of(0, 2), 0);
        Check.due("sense 100", x.of(19, 2), 100);
        for (int wording = 0; wording < 20; wording++) {
            for (int i = 1; i <= 8; i++) {
                int most = 1 + i % 6;
                Check.due("syllable", x.syllable(wording, i % 4, 1, most, 31), i);
            }
            Check.due("a ninth", x.syllable(wording, 0, 1, 1, 0), Check.FULL);
        }
    }

    private static void aFit() {
        dueFit("most 6", laid(0, same(7, 1), s(1, 1, 6)), 2, 0, 6);
        dueFit("most 5", laid(0, same(7, 1), s(1, 1, 5)), 4, 0, 5);
        dueFit("least 1", laid(0, same(3, 0), s(1, 1, 3)), 3, 0, 1);
        dueFit("least 2", laid(0, same(3, 0), s(1, 2, 3)), 6, 0, 2);
        dueFit("least 6", laid(0, same(6, 0), s(1, 6, 6)), 18, 0, 6);
        dueFit("a sung one", laid(1, same(3, 1), s(1, 1, 3)), 4, 0, 1);
        dueFit("a sung one", laid(1, same(3, 1), s(1, 2, 3)), 2, 0, 2);
        dueFit("a crowd is not sung", laid(2, same(3, 1), s(1, 1, 3)), 0, 0, 3);
        dueFit("a whisper is", laid(3, same(3, 1), s(1, 1, 3)), 4, 0, 1);
        dueFit("frames that follow", laid(0, frames(1, 0, 1), s(1, 2, 2)), 5, 0, 2);
        dueFit("behind the one ahead", laid(0, frames(2, 1), s(1, 1, 1), s(2, 1, 1)), 2, 0, 1, 1, 1);
        dueFit("not on the same frame", laid(0, frames(0, 1, 0), s(1, 1, 1), s(1, 1, 1)), 3, 0, 1, 1, 1);
        DubDesk x = laid(0, frames(0, 1, 0), s(1, 1, 1));
        Check.due("the others are pauses", x.on(0, 0), -1);
        Check.due("the others are pauses", x.on(0, 2), -1);
    }

    private static void costs() {
        for (int kind = 0; kind < 4; kind++) {
            for (int frame = 0; frame < 4; frame++) {
                for (int shape = 0; shape < 4; shape++) {
                    int other = frame == 0 || shape == 0 ? COST_OF_CLOSED[kind] : COST_OF_OTHER[kind];
                    DubDesk x = laid(kind, frames(frame), s(shape, 1, 1));
                    Check.due("kind " + kind + ": " + shape + " on " + frame, x.cost(0), frame == shape ? 0 : other);
                }
                DubDesk x = laid(kind, frames(frame));
                Check.due("kind " + kind + ": a pause on " + frame, x.cost(0), frame == 0 ? 0 : 2);
            }
        }
        dueFit("for each frame", laid(0, frames(1, 0, 2), s(2, 3, 3)), 4, 0, 3);
        dueFit("for each frame, sung", laid(1, frames(1, 0, 2), s(2, 3, 6)), 4, 0, 3);
        dueFit("for each frame, of a crowd", laid(2, frames(1, 0, 2), s(2, 3, 3)), 0, 0, 3);
        dueFit("for each frame, whispered", laid(3, frames(1, 0, 2), s(2, 3, 6)), 1, 0, 3);
        dueFit("with pauses", laid(0, frames(3, 1, 0, 2), s(1, 1, 1), s(1, 1, 1)), 3, 0, 1, 1, 1);
        dueFit("whispered with pauses", laid(3, frames(3, 0, 3), s(0, 1, 1)), 2, 0, 1);
        dueFit("a crowd with pauses", laid(2, frames(3, 3, 3), s(0, 2, 2)), 2, 0, 2);
    }

    private static void theFit() {
        dueFit("least cost ahead of earliest", laid(0, frames(0, 1), s(1, 1, 1)), 0, 1, 1);
        dueFit("least cost ahead of shortest", laid(0, frames(1, 1), s(1, 1, 2)), 0, 0, 2);
        dueFit("earliest", laid(0, frames(0, 0), s(0, 1, 1)), 0, 0, 1);
        dueFit("earliest of two that are as dear", laid(0, frames(2, 1, 0, 1), s(1, 1, 1)), 4, 1, 1);
        dueFit("shortest", laid(0, frames(0, 0), s(0, 1, 2)), 0, 0, 1);
        dueFit("earliest ahead of shortest", laid(2, frames(0, 1), s(1, 1, 2)), 0, 0, 2);
        dueFit("the first shortest", laid(0, frames(0, 0, 1), s(0, 1, 2), s(1, 1, 1)), 0, 0, 1, 2, 1);
        dueFit("the second earliest", laid(0, frames(1, 0, 0), s(1, 1, 1), s(0, 1, 1)), 0, 0, 1, 1, 1);
        dueFit("the second shortest", laid(0, frames(1, 0, 0), s(1, 1, 1), s(0, 1, 2)), 0, 0, 1, 1, 1);
        dueFit("and so on", laid(0, frames(1, 2, 0, 0, 0), s(1, 1, 1), s(2, 1, 1), s(0, 1, 3)), 0, 0, 1, 1, 1, 2, 1);
        dueFit("eight of them", laid(0, same(24, 0), s(0, 1, 6), s(0, 1, 6), s(0, 1, 6), s(0, 1, 6), s(0, 1, 6),
            s(0, 1, 6), s(0, 1, 6), s(0, 1, 6)), 0, 0, 1, 1, 1, 2, 1, 3, 1, 4, 1, 5, 1, 6, 1, 7, 1);
    }

    private static void withoutSyllables() {
        for (int kind = 0; kind < 4; kind++) {
            Check.due("no frames", laid(kind, frames()).cost(0), 0);
            Check.due("24 open ones", laid(kind, same(24, 3)).cost(0), 48);
            Check.due("24 closed ones", laid(kind, same(24, 0)).cost(0), 0);
            DubDesk x = laid(kind, frames(0, 1, 2, 3));
            Check.due("three open ones", x.cost(0), 6);
            for (int i = 0; i < 4; i++) {
                Check.due("a pause", x.on(0, i), -1);
            }
        }
    }

    private static void tooFewFrames() {
        for (int kind = 0; kind < 4; kind++) {
            Check.due("1 on none", laid(kind, frames(), s(0, 1, 1)).cost(0), Check.NONE);
            Check.due("1 on 1", laid(kind, frames(0), s(0, 1, 6)).cost(0), 0);
            Check.due("6 on 5", laid(kind, same(5, 0), s(0, 6, 6)).cost(0), Check.NONE);
            Check.due("6 on 6", laid(kind, same(6, 0), s(0, 6, 6)).cost(0), 0);
            Check.due("2 and 3 on 4", laid(kind, same(4, 0), s(0, 2, 6), s(0, 3, 6)).cost(0), Check.NONE);
            Check.due("2 and 3 on 5", laid(kind, same(5, 0), s(0, 2, 6), s(0, 3, 6)).cost(0), 0);
        }
        DubDesk x = laid(0, same(24, 0));
        for (int i = 0; i < 8; i++) {
            x.syllable(0, 0, 3, 6, 0);
        }
        Check.due("8 of 3 on 24", x.cost(0), 0);
        Check.due("the last one", x.place(0, 7, false), 21);
        x.cut(0);
        x.syllable(0, 0, 4, 6, 0);
        Check.due("25 on 24", x.cost(0), Check.NONE);
    }

    private static void cost() {
        dueFit("the dearest", laid(0, same(24, 0), s(1, 6, 6), s(1, 6, 6), s(1, 6, 6), s(1, 6, 6)), 72,
            0, 6, 6, 6, 12, 6, 18, 6);
        DubDesk x = laid(0, frames(1, 1), s(1, 1, 1));
        Check.due("as it stands", x.cost(0), 2);
        x.frame(0, 0);
        Check.due("one closed frame more", x.cost(0), 2);
        x.frame(0, 1);
        Check.due("one open frame more", x.cost(0), 4);
        x.syllable(0, 1, 1, 1, 0);
        Check.due("one syllable more", x.cost(0), 2);
        x.cut(0);
        Check.due("and less", x.cost(0), 4);
        Edges.unchanged("cost", Desks.SOME, y -> y.cost(0));
    }

    private static void costBeyond() {
        Edges.beyond("without wordings", Desks.lines(1), x -> x.cost(0));
        Edges.range("cost", Desks.FULL, 0, 19, DubDesk::cost);
        Edges.range("cost", Desks.SOME, 0, 3, DubDesk::cost);
    }

    private static void costNone() {
        Edges.refused("three on two frames", Desks.SOME, x -> x.cost(2), Check.NONE);
        DubDesk x = Desks.SOME.make();
        x.frame(1, 0);
        Check.due("three on three", x.cost(2), 3);
        x.undo();
        Check.due("three on two again", x.cost(2), Check.NONE);
        x.cut(2);
        Check.due("two on two", x.cost(2), 0);
    }

    private static void costOrder() {
        Edges.beyond("no such wording, so no fit", Desks.SOME, x -> x.cost(4));
    }

    private static void place() {
        int[] frames = same(24, 0);
        frames[23] = 1;
        dueFit("the last frame", laid(0, frames, s(1, 1, 1)), 0, 23, 1);
        dueFit("the first frame", laid(0, frames(2, 0), s(2, 1, 1)), 0, 0, 1);
        dueFit("six frames", laid(0, same(6, 3), s(3, 1, 6)), 0, 0, 6);
        Edges.unchanged("place", Desks.SOME, x -> x.place(0, 1, true));
    }

    private static void placeBeyond() {
        Edges.beyond("without wordings", Desks.lines(1), x -> x.place(0, 0, false));
        for (boolean length : new boolean[] {false, true}) {
            Edges.range("place of wording", Desks.FULL, 0, 19, (x, v) -> x.place(v, 0, length));
            Edges.range("place of 8", Desks.FULL, 0, 7, (x, v) -> x.place(0, v, length));
            Edges.range("place of 2", Desks.SOME, 0, 1, (x, v) -> x.place(0, v, length));
            Edges.beyond("without syllables", Desks.SOME, x -> x.place(1, 0, length));
        }
        DubDesk x = Desks.SOME.make();
        x.cut(0);
        Check.due("one that was cut", x.place(0, 1, false), Check.BEYOND);
    }

    private static void placeNone() {
        for (int i = 0; i < 3; i++) {
            int each = i;
            Edges.refused("begin without a fit", Desks.SOME, x -> x.place(2, each, false), Check.NONE);
            Edges.refused("length without a fit", Desks.SOME, x -> x.place(2, each, true), Check.NONE);
        }
    }

    private static void placeOrder() {
        Edges.beyond("no such syllable, and no fit", Desks.SOME, x -> x.place(2, 3, false));
        Edges.beyond("no such syllable, and no fit", Desks.SOME, x -> x.place(2, -1, true));
        Edges.beyond("no such wording", Desks.SOME, x -> x.place(4, 0, true));
    }

    private static void on() {
        DubDesk x = laid(0, frames(0, 1, 1, 0, 2, 0), s(1, 1, 4), s(2, 1, 4));
        int[] due = {-1, 0, 0, -1, 1, -1};
        for (int i = 0; i < due.length; i++) {
            Check.due("on(0, " + i + ")", x.on(0, i), due[i]);
        }
        Check.due("no finding", x.all(4), 0);
        DubDesk y = laid(0, same(24, 1));
        for (int i = 0; i < 8; i++) {
            y.syllable(0, 1, 3, 3, 0);
        }
        for (int i = 0; i < 24; i++) {
            Check.due("without pauses, on(0, " + i + ")", y.on(0, i), i / 3);
        }
        Edges.unchanged("on", Desks.SOME, z -> z.on(0, 2));
    }

    private static void onBeyond() {
        Edges.beyond("without wordings", Desks.lines(1), x -> x.on(0, 0));
        Edges.range("on of wording", Desks.FULL, 0, 19, (x, v) -> x.on(v, 0));
        Edges.range("on of 24", Desks.FULL, 0, 23, (x, v) -> x.on(0, v));
        Edges.range("on of 23", Desks.FULL, 0, 22, (x, v) -> x.on(19, v));
        Edges.range("on of 4", Desks.SOME, 0, 3, (x, v) -> x.on(1, v));
        Edges.beyond("without frames", Desks.SOME, x -> x.on(3, 0));
    }

    private static void onNone() {
        Edges.refused("the first frame", Desks.SOME, x -> x.on(2, 0), Check.NONE);
        Edges.refused("the last frame", Desks.SOME, x -> x.on(2, 1), Check.NONE);
    }

    private static void onOrder() {
        Edges.beyond("no such frame, and no fit", Desks.SOME, x -> x.on(2, 2));
        Edges.beyond("no such frame, and no fit", Desks.SOME, x -> x.on(2, -1));
        Desks.Maker noFrames = () -> laid(0, frames(), s(0, 1, 1));
        Edges.beyond("no frames, and no fit", noFrames, x -> x.on(0, 0));
        Edges.beyond("no such wording", Desks.SOME, x -> x.on(4, 0));
    }
}
