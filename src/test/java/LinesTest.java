/** Promises 1 to 10: a new object, lines, frames, wordings, syllables. */
public final class LinesTest {
    private static final int FAR = Integer.MAX_VALUE;
    private static final int FAR_BELOW = Integer.MIN_VALUE;

    public static void main(String[] args) {
        newObject();
        lines();
        frames();
        wordings();
        kinds();
        syllables();
        orderOfSyllableFindings();
        cuts();
        ofWordings();
        toldOfLines();
        shapes();
        Check.end();
    }

    private static void newObject() {
        DubDesk x = new DubDesk();
        for (int what = 0; what <= 4; what++) {
            Check.due("new: all(" + what + ")", x.all(what), 0);
        }
        for (int actor = 0; actor < 8; actor++) {
            Check.due("new: free", x.free(actor, 15), 15);
        }
        for (int day = 0; day < 4; day++) {
            Check.due("new: room", x.room(day, 60), 60);
        }
        for (int part = 0; part < 6; part++) {
            Check.due("new: actor", x.actor(part, -1), -1);
        }
        for (int word = 0; word < 32; word++) {
            Check.due("new: name", x.name(word, -1), -1);
        }
        for (int s = 0; s < 4; s++) {
            Check.due("new: put", x.put(s, 0, 0), Check.MISSING);
        }
        Check.due("new: barred", x.barred(0, 0, 999), 0);
        Check.due("new: chosen", x.chosen(0, 0, 999), Check.NONE);
        DubDesk y = new DubDesk();
        Check.due("new: undo", y.undo(), Check.NONE);
        Check.due("new: unloop", y.unloop(), Check.NONE);
        Check.due("objects are apart", y.all(4), 2);
    }

    private static void lines() {
        DubDesk x = new DubDesk();
        Check.due("line(-1)", x.line(-1), Check.BEYOND);
        Check.due("line(6)", x.line(6), Check.BEYOND);
        Check.due("line(far)", x.line(FAR), Check.BEYOND);
        Check.due("line(far below)", x.line(FAR_BELOW), Check.BEYOND);
        for (int i = 0; i < 12; i++) {
            Check.due("line", x.line(i % 6), i);
        }
        Check.due("line 12", x.line(0), Check.FULL);
        Check.due("BEYOND ahead of FULL", x.line(6), Check.BEYOND);
        Check.due("lines", x.all(0), 12);
        Check.due("part", x.told(11, 0), 5);
        Check.due("no frames", x.told(11, 1), 0);
    }

    private static void frames() {
        DubDesk x = new DubDesk();
        Check.due("frame without line", x.frame(0, 0), Check.BEYOND);
        x.line(0);
        x.line(1);
        Check.due("frame(-1)", x.frame(-1, 0), Check.BEYOND);
        Check.due("frame(2)", x.frame(2, 0), Check.BEYOND);
        Check.due("frame shape -1", x.frame(0, -1), Check.BEYOND);
        Check.due("frame shape 4", x.frame(0, 4), Check.BEYOND);
        for (int i = 1; i <= 24; i++) {
            Check.due("frame", x.frame(1, i % 4), i);
        }
        Check.due("frame 25", x.frame(1, 0), Check.FULL);
        Check.due("BEYOND ahead of FULL", x.frame(1, 4), Check.BEYOND);
        Check.due("other line", x.frame(0, 3), 1);
        Check.due("frames", x.told(1, 1), 24);
    }

    private static void wordings() {
        DubDesk x = new DubDesk();
        Check.due("wording without line", x.wording(0, 0, 0), Check.BEYOND);
        x.line(0);
        Check.due("wording line -1", x.wording(-1, 0, 0), Check.BEYOND);
        Check.due("wording line 1", x.wording(1, 0, 0), Check.BEYOND);
        Check.due("wording kind -1", x.wording(0, -1, 0), Check.BEYOND);
        Check.due("wording kind 4", x.wording(0, 4, 0), Check.BEYOND);
        Check.due("wording sense -1", x.wording(0, 0, -1), Check.BEYOND);
        Check.due("wording sense 101", x.wording(0, 0, 101), Check.BEYOND);
        for (int i = 0; i < 20; i++) {
            Check.due("wording", x.wording(0, i % 4, i * 5), i);
        }
        Check.due("wording 20", x.wording(0, 0, 100), Check.FULL);
        Check.due("BEYOND ahead of FULL", x.wording(0, 0, 101), Check.BEYOND);
        Check.due("wordings", x.all(1), 20);
        Check.due("sense 100 is one", deskOfSense(100).of(0, 2), 100);
    }

    private static DubDesk deskOfSense(int sense) {
        DubDesk x = Check.deskWithLine();
        x.wording(0, 0, sense);
        return x;
    }

    private static void kinds() {
        DubDesk x = new DubDesk();
        x.line(0);
        for (int kind = 0; kind < 4; kind++) {
            x.wording(0, kind, 0);
        }
        int no = Check.KIND;
        int[][] due = {{0, no, no, no}, {1, 1, no, no}, {2, no, 2, no}, {3, 3, no, 3}};
        for (int wording = 0; wording < 4; wording++) {
            for (int kind = 0; kind < 4; kind++) {
                Check.due("as(" + wording + ", " + kind + ")", x.as(wording, kind), due[wording][kind]);
            }
        }
        Check.due("as kind -1", x.as(0, -1), Check.BEYOND);
        Check.due("as kind 4", x.as(0, 4), Check.BEYOND);
        Check.due("as wording -1", x.as(-1, 0), Check.BEYOND);
        Check.due("as wording 4", x.as(4, 0), Check.BEYOND);
    }

    private static void syllables() {
        DubDesk x = new DubDesk();
        x.line(0);
        Check.due("syllable without wording", x.syllable(0, 0, 1, 1, 0), Check.BEYOND);
        x.wording(0, 0, 0);
        x.wording(0, 0, 0);
        for (int i = 1; i <= 8; i++) {
            Check.due("syllable", x.syllable(0, i % 4, 1, Math.min(i, 6), i + 23), i);
        }
        Check.due("syllable 9", x.syllable(0, 0, 1, 1, 0), Check.FULL);
        Check.due("SIZE ahead of FULL", x.syllable(0, 0, 2, 1, 0), Check.SIZE);
        Check.due("BEYOND ahead of FULL", x.syllable(0, 4, 1, 1, 0), Check.BEYOND);
        Check.due("of the other one", x.syllable(1, 0, 6, 6, 31), 1);
        Check.due("syllables", x.of(0, 3), 8);
    }

    private static void orderOfSyllableFindings() {
        DubDesk x = deskOfSense(0);
        Check.due("wording -1", x.syllable(-1, 0, 1, 1, 0), Check.BEYOND);
        Check.due("wording 1", x.syllable(1, 0, 1, 1, 0), Check.BEYOND);
        Check.due("shape -1", x.syllable(0, -1, 1, 1, 0), Check.BEYOND);
        Check.due("shape 4", x.syllable(0, 4, 1, 1, 0), Check.BEYOND);
        Check.due("least 0", x.syllable(0, 0, 0, 1, 0), Check.BEYOND);
        Check.due("least 7", x.syllable(0, 0, 7, 6, 0), Check.BEYOND);
        Check.due("least 7, most 7", x.syllable(0, 0, 7, 7, 0), Check.BEYOND);
        Check.due("most 0", x.syllable(0, 0, 1, 0, 0), Check.BEYOND);
        Check.due("most 7", x.syllable(0, 0, 1, 7, 0), Check.BEYOND);
        Check.due("word -1", x.syllable(0, 0, 1, 1, -1), Check.BEYOND);
        Check.due("word 32", x.syllable(0, 0, 1, 1, 32), Check.BEYOND);
        Check.due("BEYOND ahead of SIZE", x.syllable(0, 0, 2, 1, 32), Check.BEYOND);
        Check.due("least above most", x.syllable(0, 0, 6, 5, 0), Check.SIZE);
        Check.due("nothing came", x.of(0, 3), 0);
        Check.due("least as most", x.syllable(0, 3, 6, 6, 31), 1);
        Check.due("findings", x.all(4), 13);
    }

    private static void cuts() {
        DubDesk x = Check.deskWithLine(1, 2);
        Check.due("cut without wording", x.cut(0), Check.BEYOND);
        x.wording(0, 0, 0);
        Check.due("cut(-1)", x.cut(-1), Check.BEYOND);
        Check.due("cut of none", x.cut(0), Check.NONE);
        x.syllable(0, 1, 1, 1, 0);
        x.syllable(0, 2, 1, 1, 0);
        Check.due("both", x.cost(0), 0);
        Check.due("cut", x.cut(0), 1);
        Check.due("the latest went", x.cost(0), 2);
        Check.due("it lies where it lay", x.place(0, 0, false), 0);
        Check.due("cut", x.cut(0), 0);
        Check.due("cut of none", x.cut(0), Check.NONE);
    }

    private static void ofWordings() {
        DubDesk x = new DubDesk();
        x.line(0);
        x.line(1);
        x.wording(1, 3, 77);
        x.syllable(0, 0, 1, 2, 3);
        Check.due("line", x.of(0, 0), 1);
        Check.due("kind", x.of(0, 1), 3);
        Check.due("sense", x.of(0, 2), 77);
        Check.due("syllables", x.of(0, 3), 1);
        Check.due("what -1", x.of(0, -1), Check.BEYOND);
        Check.due("what 4", x.of(0, 4), Check.BEYOND);
        Check.due("wording -1", x.of(-1, 0), Check.BEYOND);
        Check.due("wording 1", x.of(1, 0), Check.BEYOND);
    }

    private static void toldOfLines() {
        DubDesk x = Check.deskWithLine(1, 2, 3);
        x.line(4);
        x.wording(0, 0, 0);
        x.wording(1, 0, 0);
        x.wording(0, 1, 0);
        Check.due("part", x.told(1, 0), 4);
        Check.due("frames", x.told(0, 1), 3);
        Check.due("wordings of 0", x.told(0, 2), 2);
        Check.due("wordings of 1", x.told(1, 2), 1);
        Check.due("what -1", x.told(0, -1), Check.BEYOND);
        Check.due("what 3", x.told(0, 3), Check.BEYOND);
        Check.due("line -1", x.told(-1, 0), Check.BEYOND);
        Check.due("line 2", x.told(2, 0), Check.BEYOND);
    }

    private static void shapes() {
        DubDesk x = Check.deskWithLine(3, 0, 2);
        x.line(0);
        Check.due("shape 0", x.shape(0, 0), 3);
        Check.due("shape 1", x.shape(0, 1), 0);
        Check.due("shape 2", x.shape(0, 2), 2);
        Check.due("shape 3", x.shape(0, 3), Check.BEYOND);
        Check.due("shape -1", x.shape(0, -1), Check.BEYOND);
        Check.due("line without frames", x.shape(1, 0), Check.BEYOND);
        Check.due("line 2", x.shape(2, 0), Check.BEYOND);
        Check.due("line -1", x.shape(-1, 0), Check.BEYOND);
    }
}
