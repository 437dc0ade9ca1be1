/** Compares answers with those that are due, and ends a test. */
final class Check {
    static final int BEYOND = -100001;
    static final int MISSING = -100002;
    static final int SIZE = -100003;
    static final int KIND = -100004;
    static final int FULL = -100005;
    static final int NONE = -100006;

    private static int asked = 0;
    private static int wrong = 0;

    private Check() {
    }

    static void due(String call, long got, long want) {
        asked++;
        if (got != want) {
            wrong++;
            System.out.println(call + " answered " + got + ", due is " + want);
        }
    }

    static int wrong() {
        return wrong;
    }

    static void end() {
        System.out.println(asked + " answers, " + wrong + " not as due");
        if (wrong != 0 || asked == 0) {
            System.exit(1);
        }
    }

    /** A desk with one line of part 0 that has these shapes. */
    static DubDesk deskWithLine(int... shapes) {
        DubDesk x = new DubDesk();
        addLine(x, 0, shapes);
        return x;
    }

    static int addLine(DubDesk x, int part, int... shapes) {
        int line = x.line(part);
        for (int shape : shapes) {
            x.frame(line, shape);
        }
        return line;
    }

    static void addLines(DubDesk x, int count) {
        for (int i = 0; i < count; i++) {
            x.line(i % 6);
        }
    }
}
