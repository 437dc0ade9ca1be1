/** A test for each sentence of promises 29 to 33, and of the terms' last items: pictures, sheets. */
public final class EdgesOfPicturesTest {
    private static final int[] BITS = {8, 16, 32};
    private static final int FAR = Integer.MAX_VALUE;
    private static final int FAR_BELOW = Integer.MIN_VALUE;

    public static void main(String[] args) throws Exception {
        Sentences of = new Sentences();
        of.term(4, "A PICTURE is CHANGED", EdgesOfPicturesTest::keptFrames);
        of.term(5, "SHEETS 0 to 3", EdgesOfPicturesTest::rowsOfNumbers);
        of.endOfTerms(4);
        of.endOfTerms(5);
        of.promise(29, "A LINE gets the FRAMES of a sheet (each number's lowest two bits): how many are KEPT.",
            EdgesOfPicturesTest::change);
        of.promise(29, "BEYOND: no such LINE, or sheet.", EdgesOfPicturesTest::changeBeyond);
        of.promise(29, "MISSING.", EdgesOfPicturesTest::changeMissing);
        of.promise(29, "SIZE: it has more than 24.", EdgesOfPicturesTest::changeSize);
        of.order(29, EdgesOfPicturesTest::changeOrder);
        of.promise(30, "How many would be KEPT of a LINE's FRAMES if it got those of another LINE.",
            EdgesOfPicturesTest::kept);
        of.promise(30, "BEYOND (either).", EdgesOfPicturesTest::keptBeyond);
        of.promise(31, "A sheet has n numbers, all 0, of 8, 16 or 32 bits; bits 0: it is MISSING: n (0).",
            EdgesOfPicturesTest::sheet);
        of.promise(31, "BEYOND: no such sheet, or bits.", EdgesOfPicturesTest::sheetBeyond);
        of.promise(31, "SIZE: n is below 0.", EdgesOfPicturesTest::sheetSize);
        of.promise(31, "BEYOND: n is above 30.", EdgesOfPicturesTest::sheetTooLong);
        of.order(31, EdgesOfPicturesTest::sheetOrder);
        of.promise(32, "Number i of a sheet becomes v (its lowest bits): 0.", EdgesOfPicturesTest::put);
        of.promise(32, "BEYOND: no such sheet.", EdgesOfPicturesTest::putBeyond);
        of.promise(32, "MISSING.", EdgesOfPicturesTest::putMissing);
        of.promise(32, "BEYOND: no such number.", EdgesOfPicturesTest::putNoNumber);
        of.order(32, EdgesOfPicturesTest::putOrder);
        of.promise(33, "n numbers of a sheet from one on come to another one from one on: n.",
            EdgesOfPicturesTest::copy);
        of.promise(33, "BEYOND: no such sheet (either).", EdgesOfPicturesTest::copyBeyond);
        of.promise(33, "MISSING: one is.", EdgesOfPicturesTest::copyMissing);
        of.promise(33, "KIND: they are not of as many bits.", EdgesOfPicturesTest::copyKind);
        of.promise(33, "BEYOND: one has not so many, or from, to or n is below 0.",
            EdgesOfPicturesTest::copyTooMany);
        of.order(33, EdgesOfPicturesTest::copyOrder);
        of.endOfPromises(29, 33);
        Check.end();
    }

    private static void dueShapes(String what, DubDesk x, int line, int... shapes) {
        Check.due(what + ": how many", x.told(line, 1), shapes.length);
        for (int i = 0; i < shapes.length; i++) {
            Check.due(what + ": frame " + i, x.shape(line, i), shapes[i]);
        }
    }

    /** What a sheet has shows when the line 0 gets it. */
    private static void dueSheet(String what, DubDesk x, int s, int... numbers) {
        x.change(0, s);
        dueShapes(what, x, 0, numbers);
    }

    /** One line, and four sheets of 8 bits: 24 numbers, 3, none, 30. */
    private static DubDesk sheeted() {
        DubDesk x = Check.deskWithLine(1);
        x.sheet(0, 8, 24);
        Desks.fill(x, 1, 8, 1, 2, 3);
        x.sheet(2, 8, 0);
        x.sheet(3, 8, 30);
        x.put(3, 0, 3);
        x.put(3, 29, 2);
        return x;
    }

    private static final Desks.Maker SHEETED = EdgesOfPicturesTest::sheeted;

    private static DubDesk twoLines(int[] old, int[] fresh) {
        DubDesk x = Check.deskWithLine(old);
        Check.addLine(x, 1, fresh);
        return x;
    }

    private static void keptFrames() {
        int[][][] pairs = {{{1, 2, 3}, {3, 2, 1}}, {{1, 2, 3}, {1, 0, 2, 0, 3}}, {{1, 1}, {1}}, {{1}, {1, 1}},
            {{0}, {1, 2, 3}}, {{1, 2}, {2, 1, 2, 1}}, {{2, 1, 2, 1}, {1, 2}}, {{1, 2, 1, 2}, {2, 1, 2, 1}}};
        int[] due = {1, 3, 1, 1, 0, 2, 2, 3};
        for (int i = 0; i < pairs.length; i++) {
            DubDesk x = twoLines(pairs[i][0], pairs[i][1]);
            Desks.fill(x, 0, 8, pairs[i][1]);
            Check.due("kept of pair " + i, x.kept(0, 1), due[i]);
            Check.due("change of pair " + i, x.change(0, 0), due[i]);
            dueShapes("it gets the other ones", x, 0, pairs[i][1]);
        }
    }

    private static void rowsOfNumbers() {
        DubDesk x = new DubDesk();
        for (int s = 0; s < 4; s++) {
            Check.due("missing at first", x.put(s, 0, 0), Check.MISSING);
        }
        for (int s = 0; s < 4; s++) {
            for (int bits : BITS) {
                Check.due("up to 30", x.sheet(s, bits, 30), 30);
                Check.due("not 31", x.sheet(s, bits, 31), Check.BEYOND);
                Check.due("the last", x.put(s, 29, 1), 0);
                Check.due("behind it", x.put(s, 30, 1), Check.BEYOND);
            }
        }
        Check.due("no sheet 4", x.sheet(4, 8, 1), Check.BEYOND);
        Check.due("no sheet -1", x.sheet(-1, 8, 1), Check.BEYOND);
    }

    private static void change() {
        int[] numbers = {0, 1, 2, 3, 4, 5, 6, 7, 255, 256, 257, 65535, 65536, 65538, -1, -2, -3, -4, FAR, FAR_BELOW};
        int[] shapes = {0, 1, 2, 3, 0, 1, 2, 3, 3, 0, 1, 3, 0, 2, 3, 2, 1, 0, 3, 0};
        for (int bits : BITS) {
            DubDesk x = Check.deskWithLine();
            Desks.fill(x, 0, bits, numbers);
            Check.due("none of none", x.change(0, 0), 0);
            dueShapes("the lowest two bits", x, 0, shapes);
            Check.due("all of them", x.change(0, 0), numbers.length);
        }
        DubDesk x = sheeted();
        x.line(0);
        Check.due("one of none", x.change(0, 2), 0);
        dueShapes("no frames", x, 0);
        Check.due("24", x.change(0, 0), 0);
        Check.due("24", x.told(0, 1), 24);
        Check.due("all 24", x.change(0, 0), 24);
        Check.due("another line has none", x.told(1, 1), 0);
        x.put(0, 0, 1);
        Check.due("the line has its own", x.shape(0, 0), 0);
    }

    private static void changeBeyond() {
        Edges.beyond("without lines", Desks.BARE, x -> x.change(0, 0));
        Edges.range("change of line", Desks.SOME, 0, 2, (x, v) -> x.change(v, 0));
        Edges.range("change of line", Desks.FULL, 0, 11, (x, v) -> x.change(v, 1));
        Desks.Maker short4 = () -> {
            DubDesk x = sheeted();
            x.sheet(3, 32, 24);
            return x;
        };
        Edges.range("change to sheet", short4, 0, 3, (x, v) -> x.change(0, v));
    }

    private static void changeMissing() {
        Edges.refused("missing at first", Desks.SOME, x -> x.change(0, 3), Check.MISSING);
        DubDesk x = sheeted();
        x.sheet(1, 0, 0);
        Check.due("it went", x.change(0, 1), Check.MISSING);
        x.sheet(1, 16, 0);
        Check.due("it has none, but is there", x.change(0, 1), 0);
    }

    private static void changeSize() {
        Edges.refused("25", Desks.SOME, x -> x.change(0, 1), Check.SIZE);
        Edges.refused("30", SHEETED, x -> x.change(0, 3), Check.SIZE);
        Check.due("24", sheeted().change(0, 0), 0);
    }

    private static void changeOrder() {
        Edges.beyond("no such line, and missing", Desks.SOME, x -> x.change(3, 3));
        Edges.beyond("no such line, and missing", Desks.SOME, x -> x.change(-1, 3));
        Edges.beyond("no such line, and 25", Desks.SOME, x -> x.change(3, 1));
        Edges.beyond("no such sheet", Desks.SOME, x -> x.change(0, 4));
        Desks.Maker gone = () -> {
            DubDesk x = sheeted();
            x.sheet(3, 0, 30);
            return x;
        };
        Edges.refused("missing, and had 30", gone, x -> x.change(0, 3), Check.MISSING);
    }

    private static void kept() {
        DubDesk x = Desks.FULL.make();
        Check.due("all 24 of itself", x.kept(0, 0), 24);
        Check.due("all 23 of the other", x.kept(0, 11), 23);
        Check.due("all 23 of the other", x.kept(11, 0), 23);
        Check.due("to none", x.kept(0, 5), 0);
        Check.due("from none", x.kept(5, 0), 0);
        Check.due("none of none", x.kept(5, 5), 0);
        Edges.unchanged("kept", Desks.SOME, y -> y.kept(0, 1));
        Edges.unchanged("kept", Desks.FULL, y -> y.kept(0, 11));
    }

    private static void keptBeyond() {
        Edges.beyond("without lines", Desks.BARE, x -> x.kept(0, 0));
        Edges.range("kept of line", Desks.SOME, 0, 2, (x, v) -> x.kept(v, 0));
        Edges.range("kept in line", Desks.SOME, 0, 2, (x, v) -> x.kept(0, v));
        Edges.range("kept of line", Desks.FULL, 0, 11, (x, v) -> x.kept(v, 11));
        Edges.range("kept in line", Desks.FULL, 0, 11, (x, v) -> x.kept(11, v));
        Edges.beyond("both", Desks.SOME, x -> x.kept(3, 3));
    }

    private static void sheet() {
        for (int bits : BITS) {
            for (int n : new int[] {0, 1, 23, 24}) {
                DubDesk x = sheeted();
                Check.due("n numbers", x.sheet(1, bits, n), n);
                dueSheet("all 0", x, 1, new int[n]);
                Check.due("not more", x.put(1, n, 1), Check.BEYOND);
            }
            Check.due("the most", sheeted().sheet(0, bits, 30), 30);
        }
        for (int n : new int[] {0, 1, 30}) {
            DubDesk x = sheeted();
            Check.due("bits 0", x.sheet(1, 0, n), 0);
            Check.due("it is missing", x.put(1, 0, 1), Check.MISSING);
            Check.due("it is missing again", x.sheet(1, 0, n), 0);
            Check.due("it comes again", x.sheet(1, 8, 3), 3);
            dueSheet("all 0", x, 1, 0, 0, 0);
        }
        DubDesk x = sheeted();
        x.sheet(0, 8, 1);
        x.sheet(0, 8, 24);
        dueSheet("all 0 behind a shorter one", x, 0, new int[24]);
        x.sheet(3, 8, 2);
        x.sheet(3, 8, 24);
        dueSheet("all 0 again", x, 3, new int[24]);
    }

    private static void sheetBeyond() {
        Edges.range("sheet", Desks.SOME, 0, 3, (x, v) -> x.sheet(v, 8, 1));
        Edges.range("sheet", Desks.BARE, 0, 3, (x, v) -> x.sheet(v, 0, 0));
        int[] others = {FAR_BELOW, -32, -16, -8, -1, 1, 2, 4, 7, 9, 12, 15, 17, 24, 31, 33, 64, 128, 256, FAR};
        for (int bits : others) {
            Edges.beyond("bits " + bits, SHEETED, x -> x.sheet(1, bits, 1));
        }
    }

    private static void sheetSize() {
        for (int bits : new int[] {0, 8, 16, 32}) {
            Edges.refused("-1 of " + bits, SHEETED, x -> x.sheet(1, bits, -1), Check.SIZE);
            Edges.refused("far below, of " + bits, SHEETED, x -> x.sheet(1, bits, FAR_BELOW), Check.SIZE);
            Check.due("0 of " + bits, sheeted().sheet(1, bits, 0), 0);
        }
    }

    private static void sheetTooLong() {
        for (int bits : new int[] {0, 8, 16, 32}) {
            Edges.beyond("31 of " + bits, SHEETED, x -> x.sheet(1, bits, 31));
            Edges.beyond("far more, of " + bits, SHEETED, x -> x.sheet(1, bits, FAR));
            Check.due("30 of " + bits, sheeted().sheet(1, bits, 30), bits == 0 ? 0 : 30);
        }
    }

    private static void sheetOrder() {
        Edges.beyond("no such sheet, and below 0", SHEETED, x -> x.sheet(4, 8, -1));
        Edges.beyond("no such sheet, and below 0", SHEETED, x -> x.sheet(-1, 8, -1));
        Edges.beyond("no such bits, and below 0", SHEETED, x -> x.sheet(1, 7, -1));
        Edges.beyond("no such bits, and above 30", SHEETED, x -> x.sheet(1, 7, 31));
    }

    private static void put() {
        DubDesk x = sheeted();
        Check.due("the first", x.put(1, 0, 3), 0);
        dueSheet("only it", x, 1, 3, 2, 3);
        Check.due("the last", x.put(1, 2, -3), 0);
        dueSheet("only it", x, 1, 3, 2, 1);
        Check.due("far", x.put(1, 1, FAR), 0);
        Check.due("far below", x.put(1, 0, FAR_BELOW), 0);
        dueSheet("their lowest bits", x, 1, 0, 3, 1);
        Check.due("of another sheet", x.put(0, 0, 1), 0);
        dueSheet("not of this one", x, 1, 0, 3, 1);
        Check.due("the last of 30", x.put(3, 29, 1), 0);
        Check.due("no finding", x.all(4), 0);
    }

    private static void putBeyond() {
        Desks.Maker four = () -> {
            DubDesk x = sheeted();
            x.sheet(2, 16, 1);
            return x;
        };
        Edges.range("put on sheet", four, 0, 3, (x, v) -> x.put(v, 0, 1));
        Edges.beyond("all missing", Desks.BARE, x -> x.put(4, 0, 1));
    }

    private static void putMissing() {
        for (int s = 0; s < 4; s++) {
            int each = s;
            Edges.refused("missing at first", Desks.BARE, x -> x.put(each, 0, 1), Check.MISSING);
        }
        Edges.refused("one is", Desks.SOME, x -> x.put(3, 0, 1), Check.MISSING);
    }

    private static void putNoNumber() {
        Edges.range("put of 3", SHEETED, 0, 2, (x, v) -> x.put(1, v, 1));
        Edges.range("put of 24", SHEETED, 0, 23, (x, v) -> x.put(0, v, 1));
        Edges.range("put of 30", SHEETED, 0, 29, (x, v) -> x.put(3, v, 1));
        Edges.beyond("put of none", SHEETED, x -> x.put(2, 0, 1));
        Edges.beyond("put of none", SHEETED, x -> x.put(2, -1, 1));
    }

    private static void putOrder() {
        Edges.beyond("no such sheet, so missing", Desks.BARE, x -> x.put(-1, 0, 1));
        Edges.refused("missing, and no such number", Desks.SOME, x -> x.put(3, -1, 1), Check.MISSING);
        Edges.refused("missing, and no such number", Desks.SOME, x -> x.put(3, 30, 1), Check.MISSING);
        Edges.refused("missing, and no such number", Desks.SOME, x -> x.put(3, FAR, 1), Check.MISSING);
    }

    private static void copy() {
        for (int bits : BITS) {
            DubDesk x = Check.deskWithLine();
            Desks.fill(x, 0, bits, 1, 2, 3);
            Desks.fill(x, 1, bits, 0, 0, 0, 0, 0);
            Check.due("the last to the last", x.copy(0, 2, 1, 4, 1), 1);
            dueSheet("the last to the last", x, 1, 0, 0, 0, 0, 3);
            Check.due("two", x.copy(0, 0, 1, 1, 2), 2);
            dueSheet("two", x, 1, 0, 1, 2, 0, 3);
            Check.due("all", x.copy(0, 0, 1, 0, 3), 3);
            dueSheet("all", x, 1, 1, 2, 3, 0, 3);
            dueSheet("they stay where they were", x, 0, 1, 2, 3);
            Check.due("none", x.copy(0, 0, 1, 0, 0), 0);
            Check.due("none from behind the last", x.copy(0, 3, 1, 5, 0), 0);
            dueSheet("none came", x, 1, 1, 2, 3, 0, 3);
            Check.due("on itself to the right", x.copy(1, 0, 1, 1, 4), 4);
            dueSheet("on itself to the right", x, 1, 1, 1, 2, 3, 0);
            Check.due("on itself to the left", x.copy(1, 1, 1, 0, 4), 4);
            dueSheet("on itself to the left", x, 1, 1, 2, 3, 0, 0);
        }
        Check.due("none of none", sheeted().copy(2, 0, 2, 0, 0), 0);
        DubDesk x = sheeted();
        x.sheet(2, 8, 30);
        Check.due("all 30", x.copy(3, 0, 2, 0, 30), 30);
        x.sheet(1, 8, 1);
        x.copy(2, 29, 1, 0, 1);
        dueSheet("the last of 30", x, 1, 2);
        Edges.changed("copy", SHEETED, y -> y.copy(1, 0, 0, 21, 3));
        Edges.unchanged("copy of none", SHEETED, y -> y.copy(1, 3, 0, 24, 0));
    }

    private static void copyBeyond() {
        Edges.range("copy from sheet", SHEETED, 0, 3, (x, v) -> x.copy(v, 0, 0, 0, 0));
        Edges.range("copy to sheet", SHEETED, 0, 3, (x, v) -> x.copy(0, 0, v, 0, 0));
        Edges.beyond("both", SHEETED, x -> x.copy(4, 0, 4, 0, 0));
    }

    private static void copyMissing() {
        Edges.refused("both", Desks.BARE, x -> x.copy(0, 0, 1, 0, 0), Check.MISSING);
        Edges.refused("the same", Desks.BARE, x -> x.copy(2, 0, 2, 0, 0), Check.MISSING);
        Edges.refused("the first", Desks.SOME, x -> x.copy(3, 0, 0, 0, 0), Check.MISSING);
        Edges.refused("the second", Desks.SOME, x -> x.copy(0, 0, 3, 0, 0), Check.MISSING);
    }

    private static void copyKind() {
        for (int bits : BITS) {
            for (int other : BITS) {
                Desks.Maker two = () -> {
                    DubDesk x = new DubDesk();
                    Desks.fill(x, 0, bits, 1, 2);
                    Desks.fill(x, 1, other, 3, 0);
                    return x;
                };
                if (bits == other) {
                    Check.due("of as many bits", two.make().copy(0, 0, 1, 0, 2), 2);
                } else {
                    Edges.refused(bits + " and " + other, two, x -> x.copy(0, 0, 1, 0, 2), Check.KIND);
                    Edges.refused("none of them", two, x -> x.copy(1, 0, 0, 0, 0), Check.KIND);
                }
            }
        }
    }

    private static void copyTooMany() {
        Desks.Maker maker = SHEETED;
        Edges.range("from, one of 3", maker, 0, 2, (x, v) -> x.copy(1, v, 0, 0, 1));
        Edges.range("from, none of 3", maker, 0, 3, (x, v) -> x.copy(1, v, 0, 0, 0));
        Edges.range("to, one in 3", maker, 0, 2, (x, v) -> x.copy(0, 0, 1, v, 1));
        Edges.range("to, none in 3", maker, 0, 3, (x, v) -> x.copy(0, 0, 1, v, 0));
        Edges.range("n of 3 in 24", maker, 0, 3, (x, v) -> x.copy(1, 0, 0, 0, v));
        Edges.range("n of 24 in 3", maker, 0, 3, (x, v) -> x.copy(0, 0, 1, 0, v));
        Edges.range("n of 2 from 1 on", maker, 0, 2, (x, v) -> x.copy(1, 1, 0, 0, v));
        Edges.range("n in 2 from 1 on", maker, 0, 2, (x, v) -> x.copy(0, 0, 1, 1, v));
        Edges.range("n on itself", maker, 0, 2, (x, v) -> x.copy(1, 0, 1, 1, v));
        Edges.range("n of none", maker, 0, 0, (x, v) -> x.copy(2, 0, 2, 0, v));
        int[][] wrong = {{FAR, 0, FAR}, {0, FAR, FAR}, {FAR, FAR, FAR}, {1, 1, FAR}, {FAR, FAR, 0}, {-1, -1, 1},
            {-1, 0, 0}, {0, -1, 0}, {FAR_BELOW, FAR_BELOW, FAR_BELOW}, {1, 1, FAR_BELOW}, {3, 3, -1}, {-1, -1, 0}};
        for (int[] w : wrong) {
            Edges.beyond("copy " + w[0] + ", " + w[1] + ", " + w[2], maker, x -> x.copy(1, w[0], 0, w[1], w[2]));
        }
    }

    private static void copyOrder() {
        Edges.beyond("no such sheet, and one missing", Desks.SOME, x -> x.copy(4, 0, 3, 0, 0));
        Edges.beyond("no such sheet, and one missing", Desks.SOME, x -> x.copy(3, 0, -1, 0, 0));
        Edges.beyond("no such sheet, and below 0", Desks.SOME, x -> x.copy(0, 0, 4, 0, -1));
        int[][] bad = {{-1, 0, 0}, {0, -1, 0}, {0, 0, -1}, {30, 0, 1}, {0, 30, 1}, {0, 0, 31}};
        for (int[] b : bad) {
            Edges.refused("missing, and too many", Desks.SOME, x -> x.copy(0, b[0], 3, b[1], b[2]), Check.MISSING);
            Edges.refused("missing, and too many", Desks.SOME, x -> x.copy(3, b[0], 0, b[1], b[2]), Check.MISSING);
            Edges.refused("other bits, and too many", Desks.SOME, x -> x.copy(0, b[0], 1, b[1], b[2]), Check.KIND);
            Edges.refused("other bits, and too many", Desks.SOME, x -> x.copy(1, b[0], 0, b[1], b[2]), Check.KIND);
        }
    }
}
