/** A test for each sentence of promises 1 to 10, and of what the terms say of lines and wordings. */
public final class EdgesOfLinesTest {
    public static void main(String[] args) throws Exception {
        Sentences of = new Sentences();
        of.promise(1, "No LINES, WORDINGS, TEXTS, LOOPS; ACTORS FREE; sheets MISSING.", EdgesOfLinesTest::newDesk);
        of.promise(2, "A new LINE without FRAMES: its number.", EdgesOfLinesTest::line);
        of.promise(2, "BEYOND: no such PART.", EdgesOfLinesTest::linePart);
        of.promise(2, "FULL: there are 12.", EdgesOfLinesTest::lineFull);
        of.order(2, EdgesOfLinesTest::lineOrder);
        of.promise(3, "One more FRAME of a LINE: how many it has.", EdgesOfLinesTest::frame);
        of.promise(3, "BEYOND: no such LINE, or SHAPE.", EdgesOfLinesTest::frameBeyond);
        of.promise(3, "FULL: it has 24.", EdgesOfLinesTest::frameFull);
        of.order(3, EdgesOfLinesTest::frameOrder);
        of.promise(4, "A new WORDING of a LINE: its number.", EdgesOfLinesTest::wording);
        of.promise(4, "BEYOND: no such LINE, kind, or SENSE.", EdgesOfLinesTest::wordingBeyond);
        of.promise(4, "FULL: there are 20.", EdgesOfLinesTest::wordingFull);
        of.order(4, EdgesOfLinesTest::wordingOrder);
        of.promise(5, "A WORDING as one of a kind: its number.", EdgesOfLinesTest::as);
        of.promise(5, "BEYOND: no such WORDING, or kind.", EdgesOfLinesTest::asBeyond);
        of.promise(5, "KIND: it is not of that kind, nor of one under it.", EdgesOfLinesTest::asKind);
        of.order(5, EdgesOfLinesTest::asOrder);
        of.promise(6, "One more SYLLABLE of a WORDING: how many it has.", EdgesOfLinesTest::syllable);
        of.promise(6, "BEYOND: no such WORDING, SHAPE, LEAST, MOST, or WORD.", EdgesOfLinesTest::syllableBeyond);
        of.promise(6, "SIZE: LEAST is above MOST.", EdgesOfLinesTest::syllableSize);
        of.promise(6, "FULL: it has 8.", EdgesOfLinesTest::syllableFull);
        of.order(6, EdgesOfLinesTest::syllableOrder);
        of.promise(7, "The latest SYLLABLE of a WORDING goes: how many it has.", EdgesOfLinesTest::cut);
        of.promise(7, "BEYOND.", EdgesOfLinesTest::cutBeyond);
        of.promise(7, "NONE: it has none.", EdgesOfLinesTest::cutNone);
        of.order(7, EdgesOfLinesTest::cutOrder);
        of.promise(8, "Of a WORDING: 0 its LINE, 1 its kind, 2 SENSE, 3 how many SYLLABLES.", EdgesOfLinesTest::of);
        of.promise(8, "BEYOND: no such WORDING, or another what.", EdgesOfLinesTest::ofBeyond);
        of.promise(9, "Of a LINE: 0 its PART, 1 how many FRAMES, 2 how many WORDINGS.", EdgesOfLinesTest::told);
        of.promise(9, "BEYOND: no such LINE, or another what.", EdgesOfLinesTest::toldBeyond);
        of.promise(10, "SHAPE of FRAME i of a LINE.", EdgesOfLinesTest::shape);
        of.promise(10, "BEYOND.", EdgesOfLinesTest::shapeBeyond);
        of.endOfPromises(1, 10);
        Check.end();
    }

    private static void newDesk() {
        DubDesk x = new DubDesk();
        for (int what = 0; what <= 4; what++) {
            Check.due("all(" + what + ")", x.all(what), 0);
        }
        Check.due("no line", x.told(0, 0), Check.BEYOND);
        Check.due("no wording", x.of(0, 0), Check.BEYOND);
        Check.due("no loop", x.planned(0), Check.BEYOND);
        Check.due("no loop to go", x.unloop(), Check.NONE);
        Check.due("nothing to undo", x.undo(), Check.NONE);
        for (int word = 0; word < 32; word++) {
            Check.due("not barred", x.barred(word % 3, word, 999), 0);
        }
        for (int name = 0; name < 8; name++) {
            Check.due("not chosen", x.chosen(name % 3, name, 999), Check.NONE);
        }
        for (int actor = 0; actor < 8; actor++) {
            Check.due("free", x.free(actor, 0), 15);
        }
        for (int s = 0; s < 4; s++) {
            Check.due("missing", x.put(s, 0, 0), Check.MISSING);
            Check.due("missing", x.copy(s, 0, s, 0, 0), Check.MISSING);
        }
    }

    private static void line() {
        DubDesk x = new DubDesk();
        Check.due("the first", x.line(5), 0);
        x.frame(0, 1);
        Check.due("the second", x.line(5), 1);
        Check.due("without frames", x.told(1, 1), 0);
        Check.due("no frame 0", x.shape(1, 0), Check.BEYOND);
        Check.due("the first keeps its own", x.told(0, 1), 1);
        x.undo();
        Check.due("the second again", x.line(0), 1);
        Check.due("its part is the new one", x.told(1, 0), 0);
    }

    private static void linePart() {
        Edges.range("line", Desks.BARE, 0, 5, DubDesk::line);
        Edges.range("line", Desks.SOME, 0, 5, DubDesk::line);
        for (int part = 0; part <= 5; part++) {
            DubDesk x = new DubDesk();
            x.line(part);
            Check.due("part " + part, x.told(0, 0), part);
        }
    }

    private static void lineFull() {
        Check.due("the twelfth", Desks.lines(11).make().line(0), 11);
        Edges.refused("the thirteenth", Desks.FULL, x -> x.line(0), Check.FULL);
        Edges.refused("of another part", Desks.lines(12), x -> x.line(5), Check.FULL);
        DubDesk x = Desks.lines(12).make();
        x.line(0);
        x.undo();
        Check.due("one less: the twelfth again", x.line(0), 11);
    }

    private static void lineOrder() {
        Edges.beyond("no such part, and 12 lines", Desks.FULL, x -> x.line(6));
        Edges.beyond("no such part, and 12 lines", Desks.FULL, x -> x.line(-1));
    }

    private static void frame() {
        DubDesk x = Desks.lines(2).make();
        Check.due("the first", x.frame(0, 3), 1);
        Check.due("the second", x.frame(0, 0), 2);
        Check.due("the first of another line", x.frame(1, 2), 1);
        Check.due("frame 0", x.shape(0, 0), 3);
        Check.due("frame 1", x.shape(0, 1), 0);
        Check.due("of the other line", x.shape(1, 0), 2);
    }

    private static void frameBeyond() {
        Edges.beyond("without lines", Desks.BARE, x -> x.frame(0, 0));
        Edges.range("frame of line", Desks.SOME, 0, 2, (x, v) -> x.frame(v, 0));
        Edges.range("frame of line", Desks.lines(12), 0, 11, (x, v) -> x.frame(v, 0));
        Edges.range("frame of shape", Desks.SOME, 0, 3, (x, v) -> x.frame(2, v));
    }

    private static void frameFull() {
        DubDesk x = new DubDesk();
        x.line(0);
        for (int i = 0; i < 23; i++) {
            x.frame(0, 1);
        }
        Check.due("the last", x.frame(0, 2), 24);
        Check.due("one more", x.frame(0, 3), Check.FULL);
        Check.due("the last is as it was", x.shape(0, 23), 2);
        Edges.refused("one more", Desks.FULL, y -> y.frame(0, 0), Check.FULL);
        Check.due("another line has 23", Desks.FULL.make().frame(11, 0), 24);
        x.sheet(0, 8, 24);
        x.change(0, 0);
        Check.due("24 by a change", x.frame(0, 1), Check.FULL);
        x.sheet(0, 8, 23);
        x.change(0, 0);
        Check.due("23 by a change", x.frame(0, 1), 24);
    }

    private static void frameOrder() {
        Edges.beyond("no such shape, and 24 frames", Desks.FULL, x -> x.frame(0, 4));
        Edges.beyond("no such shape, and 24 frames", Desks.FULL, x -> x.frame(0, -1));
    }

    private static void wording() {
        DubDesk x = Desks.lines(2).make();
        Check.due("the first", x.wording(1, 0, 0), 0);
        x.syllable(0, 0, 1, 1, 0);
        Check.due("of another line: the second", x.wording(0, 3, 100), 1);
        Check.due("without syllables", x.of(1, 3), 0);
        Check.due("of line 1", x.told(1, 2), 1);
        x.undo();
        Check.due("the second again", x.wording(1, 1, 5), 1);
        Check.due("its line is the new one", x.of(1, 0), 1);
    }

    private static void wordingBeyond() {
        Edges.beyond("without lines", Desks.BARE, x -> x.wording(0, 0, 0));
        Edges.range("wording of line", Desks.SOME, 0, 2, (x, v) -> x.wording(v, 0, 0));
        Edges.range("wording of line", Desks.lines(12), 0, 11, (x, v) -> x.wording(v, 0, 0));
        Edges.range("wording of kind", Desks.SOME, 0, 3, (x, v) -> x.wording(0, v, 0));
        Edges.range("wording of sense", Desks.SOME, 0, 100, (x, v) -> x.wording(0, 0, v));
    }

    private static void wordingFull() {
        DubDesk x = Desks.lines(2).make();
        for (int i = 0; i < 19; i++) {
            x.wording(0, 0, 0);
        }
        Check.due("the twentieth", x.wording(0, 0, 0), 19);
        Check.due("one more", x.wording(0, 0, 0), Check.FULL);
        Check.due("of a line that has none", x.wording(1, 0, 0), Check.FULL);
        x.undo();
        Check.due("one less: the twentieth again", x.wording(1, 0, 0), 19);
        Edges.refused("one more", Desks.FULL, y -> y.wording(0, 0, 0), Check.FULL);
        Edges.refused("of another line", Desks.FULL, y -> y.wording(5, 3, 100), Check.FULL);
    }

    private static void wordingOrder() {
        Edges.beyond("no such line, and 20", Desks.FULL, x -> x.wording(12, 0, 0));
        Edges.beyond("no such line, and 20", Desks.FULL, x -> x.wording(-1, 0, 0));
        Edges.beyond("no such kind, and 20", Desks.FULL, x -> x.wording(0, 4, 0));
        Edges.beyond("no such kind, and 20", Desks.FULL, x -> x.wording(0, -1, 0));
        Edges.beyond("no such sense, and 20", Desks.FULL, x -> x.wording(0, 0, 101));
        Edges.beyond("no such sense, and 20", Desks.FULL, x -> x.wording(0, 0, -1));
    }

    /** Wording i is of kind i. */
    private static DubDesk deskOfKinds() {
        DubDesk x = Desks.lines(1).make();
        for (int kind = 0; kind < 4; kind++) {
            x.wording(0, kind, 0);
        }
        return x;
    }

    private static void as() {
        int[][] taken = {{0, 0}, {1, 0}, {1, 1}, {2, 0}, {2, 2}, {3, 0}, {3, 1}, {3, 3}};
        for (int[] t : taken) {
            Check.due(t[0] + " as " + t[1], deskOfKinds().as(t[0], t[1]), t[0]);
        }
        Edges.unchanged("as", Desks.SOME, x -> x.as(1, 1));
    }

    private static void asBeyond() {
        Edges.beyond("without wordings", Desks.lines(1), x -> x.as(0, 0));
        Edges.range("as of wording", Desks.SOME, 0, 3, (x, v) -> x.as(v, 0));
        Edges.range("as of wording", Desks.FULL, 0, 19, (x, v) -> x.as(v, 0));
        Edges.range("as of kind", Desks.SOME, 0, 3, (x, v) -> x.as(1, v));
    }

    private static void asKind() {
        int[][] refused = {{0, 1}, {0, 2}, {0, 3}, {1, 2}, {1, 3}, {2, 1}, {2, 3}, {3, 2}};
        Desks.Maker kinds = EdgesOfLinesTest::deskOfKinds;
        for (int[] r : refused) {
            Edges.refused(r[0] + " as " + r[1], kinds, x -> x.as(r[0], r[1]), Check.KIND);
        }
    }

    private static void asOrder() {
        Edges.beyond("no such kind, so not of it", Desks.SOME, x -> x.as(0, 4));
        Edges.beyond("no such kind, so not of it", Desks.SOME, x -> x.as(0, -1));
        Edges.beyond("no such wording, so not of the kind", Desks.SOME, x -> x.as(4, 1));
    }

    private static void syllable() {
        DubDesk x = Check.deskWithLine(1, 2);
        x.wording(0, 0, 0);
        x.wording(0, 0, 0);
        Check.due("the first", x.syllable(0, 1, 1, 1, 0), 1);
        Check.due("the second", x.syllable(0, 2, 1, 1, 0), 2);
        Check.due("the first of another", x.syllable(1, 2, 1, 1, 0), 1);
        Check.due("in order", x.cost(0), 0);
        Check.due("of the other", x.place(1, 0, false), 1);
    }

    private static void syllableBeyond() {
        Edges.beyond("without wordings", Desks.lines(1), x -> x.syllable(0, 0, 1, 1, 0));
        Edges.range("syllable of wording", Desks.SOME, 0, 3, (x, v) -> x.syllable(v, 0, 1, 1, 0));
        Edges.range("syllable of shape", Desks.SOME, 0, 3, (x, v) -> x.syllable(0, v, 1, 1, 0));
        Edges.range("syllable of least", Desks.SOME, 1, 6, (x, v) -> x.syllable(0, 0, v, 6, 0));
        Edges.range("syllable of most", Desks.SOME, 1, 6, (x, v) -> x.syllable(0, 0, 1, v, 0));
        Edges.range("syllable of word", Desks.SOME, 0, 31, (x, v) -> x.syllable(0, 0, 1, 1, v));
        Edges.beyond("least and most of 7", Desks.SOME, x -> x.syllable(0, 0, 7, 7, 0));
        Edges.beyond("least and most of 0", Desks.SOME, x -> x.syllable(0, 0, 0, 0, 0));
    }

    private static void syllableSize() {
        for (int most = 1; most < 6; most++) {
            int below = most;
            Edges.refused("above by one", Desks.SOME, x -> x.syllable(0, 0, below + 1, below, 0), Check.SIZE);
        }
        Edges.refused("above by five", Desks.SOME, x -> x.syllable(0, 0, 6, 1, 31), Check.SIZE);
        for (int both = 1; both <= 6; both++) {
            Check.due("as much", Desks.SOME.make().syllable(0, 0, both, both, 0), 3);
        }
    }

    private static void syllableFull() {
        DubDesk x = Desks.lines(1).make();
        x.wording(0, 0, 0);
        x.wording(0, 0, 0);
        for (int i = 0; i < 7; i++) {
            x.syllable(0, 0, 1, 1, 0);
        }
        Check.due("the eighth", x.syllable(0, 0, 1, 1, 0), 8);
        Check.due("one more", x.syllable(0, 0, 1, 1, 0), Check.FULL);
        Check.due("another has none", x.syllable(1, 0, 1, 1, 0), 1);
        x.cut(0);
        Check.due("one less: the eighth again", x.syllable(0, 0, 1, 1, 0), 8);
        Edges.refused("one more", Desks.FULL, y -> y.syllable(0, 0, 1, 1, 0), Check.FULL);
        Edges.refused("one more", Desks.FULL, y -> y.syllable(19, 3, 6, 6, 31), Check.FULL);
    }

    private static void syllableOrder() {
        int[][] beyondAheadOfSize = {{4, 0, 2, 1, 0}, {-1, 0, 2, 1, 0}, {0, 4, 2, 1, 0}, {0, -1, 2, 1, 0},
            {0, 0, 7, 6, 0}, {0, 0, 7, 1, 0}, {0, 0, 1, 0, 0}, {0, 0, 0, -1, 0}, {0, 0, 2, 1, 32}, {0, 0, 2, 1, -1}};
        for (int[] a : beyondAheadOfSize) {
            Edges.beyond("ahead of SIZE", Desks.SOME, x -> x.syllable(a[0], a[1], a[2], a[3], a[4]));
        }
        int[][] beyondAheadOfFull = {{0, 4, 1, 1, 0}, {0, -1, 1, 1, 0}, {0, 0, 0, 1, 0}, {0, 0, 1, 7, 0},
            {0, 0, 1, 1, 32}, {0, 0, 1, 1, -1}, {0, 0, 2, 1, 32}};
        for (int[] a : beyondAheadOfFull) {
            Edges.beyond("ahead of FULL", Desks.FULL, x -> x.syllable(a[0], a[1], a[2], a[3], a[4]));
        }
        Edges.refused("SIZE ahead of FULL", Desks.FULL, x -> x.syllable(0, 0, 2, 1, 0), Check.SIZE);
    }

    private static void cut() {
        DubDesk x = Check.deskWithLine(1, 2);
        x.wording(0, 0, 0);
        x.wording(0, 0, 0);
        x.syllable(0, 1, 1, 1, 8);
        x.syllable(0, 2, 1, 1, 9);
        x.syllable(1, 2, 1, 1, 9);
        x.text(0, 0, 9, 0);
        Check.due("one stays", x.cut(0), 1);
        Check.due("the latest went", x.lawful(0, 0, 0), 1);
        Check.due("the first stays", x.place(0, 0, false), 0);
        Check.due("the other wording keeps its own", x.of(1, 3), 1);
        Check.due("none stays", x.cut(0), 0);
        Check.due("eight less one", Desks.FULL.make().cut(19), 7);
    }

    private static void cutBeyond() {
        Edges.beyond("without wordings", Desks.lines(1), x -> x.cut(0));
        Edges.range("cut", Desks.FULL, 0, 19, DubDesk::cut);
        Edges.beyond("wording 4", Desks.SOME, x -> x.cut(4));
    }

    private static void cutNone() {
        Edges.refused("it never had one", Desks.SOME, x -> x.cut(1), Check.NONE);
        DubDesk x = Desks.SOME.make();
        x.cut(0);
        Check.due("the last one", x.cut(0), 0);
        Check.due("none is left", x.cut(0), Check.NONE);
        Check.due("still none", x.of(0, 3), 0);
    }

    private static void cutOrder() {
        Desks.Maker gone = () -> {
            DubDesk x = Desks.lines(1).make();
            x.wording(0, 0, 0);
            x.undo();
            return x;
        };
        Edges.beyond("a wording that went, without syllables", gone, x -> x.cut(0));
    }

    private static void of() {
        DubDesk x = Desks.FULL.make();
        int[][] due = {{0, 0, 0, 8}, {11, 3, 95, 8}};
        for (int what = 0; what < 4; what++) {
            Check.due("of(0, " + what + ")", x.of(0, what), due[0][what]);
            Check.due("of(19, " + what + ")", x.of(19, what), due[1][what]);
        }
        Check.due("without syllables", x.of(1, 3), 0);
        Edges.unchanged("of", Desks.SOME, y -> y.of(0, 3));
    }

    private static void ofBeyond() {
        Edges.beyond("without wordings", Desks.lines(1), x -> x.of(0, 0));
        Edges.range("of wording", Desks.SOME, 0, 3, (x, v) -> x.of(v, 0));
        Edges.range("of wording", Desks.FULL, 0, 19, (x, v) -> x.of(v, 3));
        Edges.range("of what", Desks.SOME, 0, 3, (x, v) -> x.of(0, v));
    }

    private static void told() {
        DubDesk x = Desks.FULL.make();
        int[][] due = {{0, 24, 10}, {5, 23, 10}};
        for (int what = 0; what < 3; what++) {
            Check.due("told(0, " + what + ")", x.told(0, what), due[0][what]);
            Check.due("told(11, " + what + ")", x.told(11, what), due[1][what]);
        }
        Check.due("without frames", x.told(1, 1), 0);
        Check.due("without wordings", x.told(1, 2), 0);
        DubDesk y = Desks.lines(1).make();
        for (int i = 0; i < 20; i++) {
            y.wording(0, 0, 0);
        }
        Check.due("all of them", y.told(0, 2), 20);
        y.undo();
        Check.due("one less", y.told(0, 2), 19);
        Edges.unchanged("told", Desks.SOME, z -> z.told(0, 2));
    }

    private static void toldBeyond() {
        Edges.beyond("without lines", Desks.BARE, x -> x.told(0, 0));
        Edges.range("told of line", Desks.SOME, 0, 2, (x, v) -> x.told(v, 0));
        Edges.range("told of line", Desks.FULL, 0, 11, (x, v) -> x.told(v, 2));
        Edges.range("told what", Desks.SOME, 0, 2, (x, v) -> x.told(0, v));
    }

    private static void shape() {
        DubDesk x = Desks.FULL.make();
        for (int i = 0; i < 24; i++) {
            Check.due("shape(0, " + i + ")", x.shape(0, i), i % 4);
        }
        for (int i = 0; i < 23; i++) {
            Check.due("shape(11, " + i + ")", x.shape(11, i), (i + 1) % 4);
        }
        Edges.unchanged("shape", Desks.SOME, y -> y.shape(0, 3));
    }

    private static void shapeBeyond() {
        Edges.beyond("without lines", Desks.BARE, x -> x.shape(0, 0));
        Edges.beyond("without frames", Desks.SOME, x -> x.shape(2, 0));
        Edges.range("shape of line", Desks.FULL, 0, 11, (x, v) -> x.shape(v, 0));
        Edges.range("shape of 24", Desks.FULL, 0, 23, (x, v) -> x.shape(0, v));
        Edges.range("shape of 23", Desks.FULL, 0, 22, (x, v) -> x.shape(11, v));
        Edges.range("shape of 4", Desks.SOME, 0, 3, (x, v) -> x.shape(0, v));
        DubDesk x = Desks.SOME.make();
        x.change(0, 0);
        Check.due("after a change to 3: the last", x.shape(0, 2), 3);
        Check.due("after a change to 3: behind it", x.shape(0, 3), Check.BEYOND);
    }
}
