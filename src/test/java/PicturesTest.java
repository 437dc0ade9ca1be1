/** Promises 29 to 33: changed pictures, what is kept, and sheets. */
public final class PicturesTest {
    public static void main(String[] args) {
        changes();
        changeFindings();
        keptFrames();
        sheets();
        puts();
        copies();
        overlappingCopies();
        copyFindings();
        againstAllSelections();
        Check.end();
    }

    private static void fill(DubDesk x, int s, int bits, int... numbers) {
        x.sheet(s, bits, numbers.length);
        for (int i = 0; i < numbers.length; i++) {
            x.put(s, i, numbers[i]);
        }
    }

    private static void dueShapes(String what, DubDesk x, int line, int... shapes) {
        Check.due(what + ": how many", x.told(line, 1), shapes.length);
        for (int i = 0; i < shapes.length; i++) {
            Check.due(what + ": frame " + i, x.shape(line, i), shapes[i]);
        }
    }

    private static void changes() {
        DubDesk x = Check.deskWithLine(1, 2, 3, 0);
        fill(x, 3, 16, 2, 0, 1, 4, 7, -4);
        Check.due("kept 2 0 or 2 3 0", x.change(0, 3), 3);
        dueShapes("lowest two bits", x, 0, 2, 0, 1, 0, 3, 0);
        Check.due("again, all kept", x.change(0, 3), 6);
        x.sheet(0, 8, 24);
        Check.due("24 closed ones", x.change(0, 0), 3);
        Check.due("24", x.told(0, 1), 24);
        x.sheet(0, 32, 0);
        Check.due("empty", x.change(0, 0), 0);
        Check.due("none", x.told(0, 1), 0);
        Check.due("empty again", x.change(0, 0), 0);
        fill(x, 1, 32, Integer.MAX_VALUE, Integer.MIN_VALUE, Integer.MIN_VALUE + 2);
        Check.due("from none", x.change(0, 1), 0);
        dueShapes("32 bits", x, 0, 3, 0, 2);
        x.put(1, 0, 0);
        Check.due("the line has its own", x.shape(0, 0), 3);
        x.wording(0, 0, 0);
        Check.due("the fit sees them", x.cost(0), 4);
        Check.due("the line takes one more", x.frame(0, 1), 4);
    }

    private static void changeFindings() {
        DubDesk x = Check.deskWithLine(1);
        Check.due("line -1", x.change(-1, 0), Check.BEYOND);
        Check.due("line 1", x.change(1, 0), Check.BEYOND);
        Check.due("sheet -1", x.change(0, -1), Check.BEYOND);
        Check.due("sheet 4", x.change(0, 4), Check.BEYOND);
        Check.due("missing", x.change(0, 0), Check.MISSING);
        x.sheet(0, 8, 25);
        Check.due("25", x.change(0, 0), Check.SIZE);
        Check.due("as it was", x.told(0, 1), 1);
        Check.due("no act", x.undo(), 1);
    }

    private static void keptFrames() {
        DubDesk x = Check.deskWithLine(1, 2, 1, 3);
        Check.addLine(x, 1, 3, 1, 1, 3, 2);
        x.line(2);
        Check.due("1 1 3", x.kept(0, 1), 3);
        Check.due("the other way", x.kept(1, 0), 3);
        Check.due("itself", x.kept(1, 1), 5);
        Check.due("to none", x.kept(0, 2), 0);
        Check.due("from none", x.kept(2, 0), 0);
        Check.due("none of none", x.kept(2, 2), 0);
        Check.due("line -1", x.kept(-1, 0), Check.BEYOND);
        Check.due("line 3", x.kept(3, 0), Check.BEYOND);
        Check.due("other -1", x.kept(0, -1), Check.BEYOND);
        Check.due("other 3", x.kept(0, 3), Check.BEYOND);
        dueShapes("as it was", x, 0, 1, 2, 1, 3);
    }

    private static void sheets() {
        DubDesk x = Check.deskWithLine();
        Check.due("8 bits", x.sheet(0, 8, 30), 30);
        Check.due("16 bits", x.sheet(1, 16, 1), 1);
        Check.due("32 bits", x.sheet(3, 32, 0), 0);
        Check.due("the last number", x.put(0, 29, 1), 0);
        Check.due("behind it", x.put(0, 30, 1), Check.BEYOND);
        Check.due("none of none", x.put(3, 0, 1), Check.BEYOND);
        int[] wrongBits = {-8, -1, 1, 7, 9, 24, 31, 33, 64};
        for (int bits : wrongBits) {
            Check.due("bits " + bits, x.sheet(0, bits, 1), Check.BEYOND);
            Check.due("ahead of SIZE", x.sheet(0, bits, -1), Check.BEYOND);
        }
        Check.due("sheet -1", x.sheet(-1, 8, -1), Check.BEYOND);
        Check.due("sheet 4", x.sheet(4, 8, -1), Check.BEYOND);
        Check.due("n -1", x.sheet(0, 8, -1), Check.SIZE);
        Check.due("n far below", x.sheet(0, 8, Integer.MIN_VALUE), Check.SIZE);
        Check.due("n 31", x.sheet(0, 8, 31), Check.BEYOND);
        Check.due("bits 0, n -1", x.sheet(0, 0, -1), Check.SIZE);
        Check.due("bits 0, n 31", x.sheet(0, 0, 31), Check.BEYOND);
        Check.due("still there", x.put(0, 29, 1), 0);
        Check.due("bits 0", x.sheet(0, 0, 0), 0);
        Check.due("missing", x.put(0, 0, 1), Check.MISSING);
        x.sheet(0, 8, 2);
        Check.due("bits 0, n 2", x.sheet(0, 0, 2), 0);
        Check.due("missing", x.change(0, 0), Check.MISSING);
        fill(x, 2, 8, 1, 2, 3);
        Check.due("anew", x.sheet(2, 8, 2), 2);
        x.change(0, 2);
        dueShapes("all 0", x, 0, 0, 0);
        Check.due("a sheet can not be undone", x.undo(), 1);
    }

    private static void puts() {
        DubDesk x = Check.deskWithLine();
        Check.due("sheet -1", x.put(-1, 0, 0), Check.BEYOND);
        Check.due("sheet 4", x.put(4, 0, 0), Check.BEYOND);
        Check.due("missing", x.put(0, -1, 0), Check.MISSING);
        x.sheet(0, 8, 2);
        Check.due("number -1", x.put(0, -1, 0), Check.BEYOND);
        Check.due("number 2", x.put(0, 2, 0), Check.BEYOND);
        Check.due("any v", x.put(0, 0, Integer.MIN_VALUE + 3), 0);
        Check.due("any v", x.put(0, 1, -2), 0);
        x.change(0, 0);
        dueShapes("put", x, 0, 3, 2);
    }

    private static void copies() {
        DubDesk x = Check.deskWithLine();
        fill(x, 0, 16, 1, 2, 3);
        fill(x, 1, 16, 0, 0, 0, 0, 0);
        Check.due("copy", x.copy(0, 1, 1, 3, 2), 2);
        x.change(0, 1);
        dueShapes("copied", x, 0, 0, 0, 0, 2, 3);
        Check.due("all", x.copy(0, 0, 1, 0, 3), 3);
        x.change(0, 1);
        dueShapes("all copied", x, 0, 1, 2, 3, 2, 3);
        x.change(0, 0);
        dueShapes("the source stays", x, 0, 1, 2, 3);
        Check.due("none from behind the end", x.copy(0, 3, 1, 5, 0), 0);
    }

    private static void overlappingCopies() {
        DubDesk x = Check.deskWithLine();
        fill(x, 0, 8, 1, 2, 3, 0);
        Check.due("to the right", x.copy(0, 0, 0, 1, 3), 3);
        x.change(0, 0);
        dueShapes("to the right", x, 0, 1, 1, 2, 3);
        fill(x, 0, 8, 0, 1, 2, 3);
        Check.due("to the left", x.copy(0, 1, 0, 0, 3), 3);
        x.change(0, 0);
        dueShapes("to the left", x, 0, 1, 2, 3, 3);
    }

    private static void copyFindings() {
        DubDesk x = new DubDesk();
        Check.due("sheet -1", x.copy(-1, 0, 0, 0, 0), Check.BEYOND);
        Check.due("sheet 4", x.copy(4, 0, 0, 0, 0), Check.BEYOND);
        Check.due("to sheet -1", x.copy(0, 0, -1, 0, 0), Check.BEYOND);
        Check.due("to sheet 4", x.copy(0, 0, 4, 0, 0), Check.BEYOND);
        Check.due("both missing", x.copy(0, -1, 1, 0, 0), Check.MISSING);
        x.sheet(0, 8, 3);
        Check.due("the second is missing", x.copy(0, -1, 1, 0, 0), Check.MISSING);
        Check.due("the first is missing", x.copy(1, -1, 0, 0, 0), Check.MISSING);
        x.sheet(1, 16, 3);
        Check.due("of other bits", x.copy(0, -1, 1, 0, 0), Check.KIND);
        Check.due("of other bits", x.copy(1, 0, 0, 0, 0), Check.KIND);
        x.sheet(1, 8, 5);
        int far = Integer.MAX_VALUE;
        int[][] wrong = {{-1, 0, 1}, {0, -1, 1}, {0, 0, -1}, {1, 0, 3}, {0, 3, 3}, {0, 0, 4}, {4, 0, 0}, {0, 6, 0},
            {far, 0, 1}, {0, far, 1}, {0, 0, far}, {far, far, far}, {1, 1, far}, {-1, -1, 0},
            {Integer.MIN_VALUE, 0, Integer.MIN_VALUE}, {2, 0, -1}, {1, 1, Integer.MIN_VALUE}};
        for (int[] w : wrong) {
            Check.due("copy " + w[0] + " " + w[1] + " " + w[2], x.copy(0, w[0], 1, w[1], w[2]), Check.BEYOND);
        }
        Check.due("just so many", x.copy(0, 0, 1, 2, 3), 3);
        Check.due("onto itself", x.copy(0, 0, 0, 0, 3), 3);
        Check.due("findings", x.all(4), 9 + wrong.length);
    }

    private static void againstAllSelections() {
        java.util.Random random = new java.util.Random(11);
        for (int round = 0; round < 400; round++) {
            int[] old = randomShapes(random, 8);
            int[] fresh = randomShapes(random, 24);
            DubDesk x = Check.deskWithLine(old);
            Check.addLine(x, 0, fresh);
            fill(x, 0, 8, fresh);
            int due = mostKept(old, fresh);
            Check.due("kept", x.kept(0, 1), due);
            Check.due("kept the other way", x.kept(1, 0), due);
            Check.due("change", x.change(0, 0), due);
            dueShapes("changed", x, 0, fresh);
        }
    }

    private static int[] randomShapes(java.util.Random random, int most) {
        int[] shapes = new int[random.nextInt(most + 1)];
        for (int i = 0; i < shapes.length; i++) {
            shapes[i] = random.nextInt(4);
        }
        return shapes;
    }

    /** Tries every selection of the old ones. */
    private static int mostKept(int[] old, int[] fresh) {
        int most = 0;
        for (int set = 0; set < 1 << old.length; set++) {
            int at = 0;
            boolean comes = true;
            for (int i = 0; i < old.length && comes; i++) {
                if ((set >> i & 1) == 1) {
                    while (at < fresh.length && fresh[at] != old[i]) {
                        at++;
                    }
                    comes = at < fresh.length;
                    at++;
                }
            }
            if (comes) {
                most = Math.max(most, Integer.bitCount(set));
            }
        }
        return most;
    }
}
