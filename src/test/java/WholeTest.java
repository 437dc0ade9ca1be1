/** Promises 34 and 35: what is undone, and what is told of the whole. */
public final class WholeTest {
    public static void main(String[] args) {
        everyActIsUndone();
        cutSyllablesComeBack();
        everySyllableComesBackWhole();
        unloopedLoopsComeBack();
        changedFramesComeBack();
        onlyTwentyAreKept();
        actsThatChangedNothing();
        findingsAreNoActs();
        sheetsStay();
        linesAreMadeAnew();
        wholeOfAll();
        everyFindingCounts();
        findingsOfFullDesks();
        Check.end();
    }

    private static void everyActIsUndone() {
        DubDesk x = new DubDesk();
        x.line(2);
        Check.due("line", x.undo(), 0);
        Check.due("lines", x.all(0), 0);
        Check.due("no line", x.told(0, 0), Check.BEYOND);
        x.line(3);
        x.frame(0, 2);
        Check.due("frame", x.undo(), 1);
        Check.due("frames", x.told(0, 1), 0);
        x.wording(0, 1, 9);
        Check.due("wording", x.undo(), 1);
        Check.due("wordings", x.all(1), 0);
        x.wording(0, 0, 8);
        x.syllable(0, 1, 1, 1, 1);
        Check.due("syllable", x.undo(), 2);
        Check.due("syllables", x.of(0, 3), 0);
        x.name(4, 3);
        x.name(4, 5);
        Check.due("name", x.undo(), 3);
        Check.due("the name ahead", x.name(4, -1), 3);
        x.text(0, 0, 1, 0);
        Check.due("text", x.undo(), 4);
        Check.due("texts", x.all(2), 0);
        Check.due("not barred", x.barred(0, 1, 0), 0);
        x.actor(1, 5);
        x.actor(1, 6);
        Check.due("actor", x.undo(), 5);
        Check.due("the actor ahead", x.actor(1, -1), 5);
        x.free(2, 7);
        Check.due("free", x.undo(), 6);
        Check.due("free ahead", x.free(2, 1), 15);
        x.room(1, 9);
        Check.due("room", x.undo(), 7);
        Check.due("room ahead", x.room(1, 2), 60);
        x.loop(1);
        Check.due("loop", x.undo(), 8);
        Check.due("loops", x.all(3), 0);
        for (int more = 7; more >= 0; more--) {
            Check.due("the rest", x.undo(), more);
        }
        Check.due("none", x.undo(), Check.NONE);
        Check.due("free as at first", x.free(2, 15), 15);
        Check.due("room as at first", x.room(1, 60), 60);
        Check.due("actor as at first", x.actor(1, -1), -1);
        Check.due("name as at first", x.name(4, -1), -1);
    }

    private static void cutSyllablesComeBack() {
        DubDesk x = Check.deskWithLine(2, 2, 0);
        x.wording(0, 0, 0);
        x.syllable(0, 2, 2, 3, 17);
        x.text(0, 0, 17, 0);
        x.cut(0);
        x.syllable(0, 1, 1, 1, 4);
        Check.due("the new one", x.cost(0), 3);
        Check.due("the new one goes", x.undo(), 8);
        Check.due("none", x.of(0, 3), 0);
        Check.due("the cut is undone", x.undo(), 7);
        Check.due("one", x.of(0, 3), 1);
        Check.due("its shape", x.cost(0), 0);
        Check.due("its least", x.place(0, 0, true), 2);
        Check.due("its word", x.lawful(0, 0, 0), 0);
        x.frame(0, 2);
        x.sheet(0, 8, 3);
        x.put(0, 0, 2);
        x.put(0, 1, 2);
        x.put(0, 2, 2);
        x.change(0, 0);
        Check.due("its most", x.place(0, 0, true), 3);
    }

    private static void everySyllableComesBackWhole() {
        for (int shape = 0; shape < 4; shape++) {
            for (int least = 1; least <= 6; least++) {
                for (int most = least; most <= 6; most++) {
                    DubDesk x = Check.deskWithLine(shape, shape, shape, shape, shape, shape);
                    x.wording(0, 0, 0);
                    x.syllable(0, shape, least, most, 9);
                    int cost = x.cost(0);
                    x.cut(0);
                    x.syllable(0, 3 - shape, 7 - most, 7 - least, 8);
                    x.undo();
                    x.undo();
                    Check.due("cost", x.cost(0), cost);
                    Check.due("length", x.place(0, 0, true), shape == 0 ? least : most);
                }
            }
        }
    }

    private static void unloopedLoopsComeBack() {
        DubDesk x = new DubDesk();
        Check.addLines(x, 2);
        x.actor(1, 3);
        x.free(3, 4);
        x.loop(2);
        x.unloop();
        x.loop(1);
        Check.due("the other loop", x.planned(0), 0);
        x.undo();
        Check.due("it goes", x.all(3), 0);
        Check.due("the unloop is undone", x.undo(), 5);
        Check.due("one loop", x.all(3), 1);
        Check.due("the loop of line 1", x.planned(0), 2);
    }

    private static void changedFramesComeBack() {
        DubDesk x = Check.deskWithLine(1, 2, 3);
        x.sheet(0, 8, 5);
        x.change(0, 0);
        x.frame(0, 1);
        x.sheet(1, 8, 1);
        x.change(0, 1);
        Check.due("one frame", x.told(0, 1), 1);
        Check.due("the second change", x.undo(), 6);
        Check.due("six", x.told(0, 1), 6);
        Check.due("the last", x.shape(0, 5), 1);
        Check.due("the frame", x.undo(), 5);
        Check.due("the first change", x.undo(), 4);
        Check.due("three", x.told(0, 1), 3);
        for (int i = 0; i < 3; i++) {
            Check.due("frame " + i, x.shape(0, i), i + 1);
        }
    }

    private static void onlyTwentyAreKept() {
        DubDesk x = new DubDesk();
        x.line(0);
        for (int i = 0; i < 24; i++) {
            x.frame(0, i % 4);
        }
        for (int more = 19; more >= 0; more--) {
            Check.due("undo", x.undo(), more);
        }
        Check.due("no more", x.undo(), Check.NONE);
        Check.due("four stay", x.told(0, 1), 4);
        Check.due("frame", x.frame(0, 0), 5);
        Check.due("one more can be", x.undo(), 0);
        Check.due("four stay", x.told(0, 1), 4);
        DubDesk y = new DubDesk();
        for (int v = 0; v < 53; v++) {
            y.room(0, v);
        }
        for (int more = 19; more >= 10; more--) {
            y.undo();
        }
        Check.due("ten back", y.room(0, 99), 42);
        Check.due("ten and one", y.undo(), 10);
        for (int more = 9; more >= 0; more--) {
            Check.due("the other ten", y.undo(), more);
        }
        Check.due("twenty back", y.room(0, 60), 32);
    }

    private static void actsThatChangedNothing() {
        DubDesk x = Check.deskWithLine(1);
        x.name(0, -1);
        x.actor(0, -1);
        x.free(0, 15);
        x.room(0, 60);
        x.sheet(0, 8, 1);
        x.put(0, 0, 1);
        x.change(0, 0);
        for (int more = 6; more >= 2; more--) {
            Check.due("changed nothing", x.undo(), more);
        }
        Check.due("still a frame", x.told(0, 1), 1);
        Check.due("the frame", x.undo(), 1);
    }

    private static void findingsAreNoActs() {
        DubDesk x = Check.deskWithLine();
        x.wording(0, 0, 0);
        x.line(6);
        x.frame(0, 4);
        x.wording(0, 4, 0);
        x.syllable(0, 0, 2, 1, 0);
        x.cut(0);
        x.name(0, 8);
        x.text(3, 0, 0, 0);
        x.actor(0, 8);
        x.free(0, 16);
        x.room(0, 101);
        x.loop(0);
        x.unloop();
        x.change(0, 0);
        x.cost(0);
        x.best(0, 0, 0);
        x.plan();
        x.kept(0, 0);
        x.as(0, 0);
        Check.due("findings", x.all(4), 13);
        Check.due("only wording and line", x.undo(), 1);
        Check.due("the line", x.undo(), 0);
        Check.due("nothing is left", x.undo(), Check.NONE);
        Check.due("findings stay", x.all(4), 14);
    }

    private static void sheetsStay() {
        DubDesk x = Check.deskWithLine(1);
        x.sheet(0, 8, 2);
        x.put(0, 1, 3);
        x.sheet(1, 8, 2);
        x.copy(0, 0, 1, 0, 2);
        Check.due("only the frame", x.undo(), 1);
        x.change(0, 1);
        Check.due("the sheet stays", x.shape(0, 1), 3);
    }

    private static void linesAreMadeAnew() {
        DubDesk x = Check.deskWithLine(1, 1);
        x.wording(0, 3, 9);
        x.syllable(0, 1, 1, 1, 1);
        for (int i = 0; i < 5; i++) {
            x.undo();
        }
        Check.due("line", x.line(4), 0);
        Check.due("its part", x.told(0, 0), 4);
        Check.due("no frames", x.told(0, 1), 0);
        Check.due("wording", x.wording(0, 1, 3), 0);
        Check.due("its kind", x.of(0, 1), 1);
        Check.due("its sense", x.of(0, 2), 3);
        Check.due("no syllables", x.of(0, 3), 0);
    }

    private static void wholeOfAll() {
        DubDesk x = new DubDesk();
        Check.addLines(x, 4);
        x.wording(0, 0, 0);
        x.wording(1, 0, 0);
        x.wording(1, 0, 0);
        x.text(0, 0, 0, 0);
        x.text(1, 0, 0, 0);
        x.loop(1);
        Check.due("lines", x.all(0), 4);
        Check.due("wordings", x.all(1), 3);
        Check.due("texts", x.all(2), 2);
        Check.due("loops", x.all(3), 1);
        Check.due("findings", x.all(4), 0);
        Check.due("what 5", x.all(5), Check.BEYOND);
        Check.due("what -1", x.all(-1), Check.BEYOND);
        Check.due("findings", x.all(4), 2);
        x.undo();
        Check.due("findings", x.all(4), 2);
    }

    private static int counted = 0;

    private static void dueCounted(String call, DubDesk x, int got, int want) {
        Check.due(call, got, want);
        counted++;
        Check.due(call + " is counted", x.all(4), counted);
    }

    private static void everyFindingCounts() {
        DubDesk x = Check.deskWithLine(1);
        counted = 0;
        dueCounted("frame", x, x.frame(1, 0), Check.BEYOND);
        dueCounted("line", x, x.line(6), Check.BEYOND);
        dueCounted("wording", x, x.wording(1, 0, 0), Check.BEYOND);
        x.wording(0, 0, 0);
        dueCounted("as", x, x.as(1, 0), Check.BEYOND);
        dueCounted("as", x, x.as(0, 1), Check.KIND);
        dueCounted("syllable", x, x.syllable(0, 0, 0, 1, 0), Check.BEYOND);
        dueCounted("syllable", x, x.syllable(0, 0, 2, 1, 0), Check.SIZE);
        dueCounted("cut", x, x.cut(1), Check.BEYOND);
        dueCounted("cut", x, x.cut(0), Check.NONE);
        dueCounted("of", x, x.of(1, 0), Check.BEYOND);
        dueCounted("of", x, x.of(0, 4), Check.BEYOND);
        dueCounted("told", x, x.told(1, 0), Check.BEYOND);
        dueCounted("told", x, x.told(0, 3), Check.BEYOND);
        dueCounted("shape", x, x.shape(0, 1), Check.BEYOND);
        dueCounted("cost", x, x.cost(1), Check.BEYOND);
        dueCounted("place", x, x.place(0, 0, false), Check.BEYOND);
        dueCounted("on", x, x.on(0, 1), Check.BEYOND);
        x.syllable(0, 0, 2, 2, 0);
        dueCounted("cost", x, x.cost(0), Check.NONE);
        dueCounted("place", x, x.place(0, 0, false), Check.NONE);
        dueCounted("on", x, x.on(0, 0), Check.NONE);
        dueCounted("name", x, x.name(0, 8), Check.BEYOND);
        dueCounted("text", x, x.text(3, 0, 0, 0), Check.BEYOND);
        dueCounted("barred", x, x.barred(3, 0, 0), Check.BEYOND);
        dueCounted("chosen", x, x.chosen(3, 0, 0), Check.BEYOND);
        dueCounted("chosen", x, x.chosen(0, 0, 0), Check.NONE);
        dueCounted("lawful", x, x.lawful(0, 3, 0), Check.BEYOND);
        dueCounted("best", x, x.best(0, 3, 0), Check.BEYOND);
        dueCounted("best", x, x.best(0, 0, 0), Check.NONE);
        dueCounted("worth", x, x.worth(3, 0), Check.BEYOND);
        dueCounted("actor", x, x.actor(6, 0), Check.BEYOND);
        dueCounted("free", x, x.free(8, 0), Check.BEYOND);
        dueCounted("room", x, x.room(4, 0), Check.BEYOND);
        dueCounted("loop", x, x.loop(2), Check.BEYOND);
        dueCounted("loop", x, x.loop(0), Check.SIZE);
        dueCounted("unloop", x, x.unloop(), Check.NONE);
        dueCounted("planned", x, x.planned(0), Check.BEYOND);
        findingsOfSheets(x);
    }

    private static void findingsOfSheets(DubDesk x) {
        dueCounted("change", x, x.change(0, 4), Check.BEYOND);
        dueCounted("change", x, x.change(0, 0), Check.MISSING);
        dueCounted("kept", x, x.kept(0, 1), Check.BEYOND);
        dueCounted("sheet", x, x.sheet(4, 8, 0), Check.BEYOND);
        dueCounted("sheet", x, x.sheet(0, 8, -1), Check.SIZE);
        dueCounted("sheet", x, x.sheet(0, 8, 31), Check.BEYOND);
        dueCounted("put", x, x.put(4, 0, 0), Check.BEYOND);
        dueCounted("put", x, x.put(0, 0, 0), Check.MISSING);
        x.sheet(0, 8, 25);
        dueCounted("put", x, x.put(0, 25, 0), Check.BEYOND);
        dueCounted("change", x, x.change(0, 0), Check.SIZE);
        dueCounted("copy", x, x.copy(0, 0, 4, 0, 0), Check.BEYOND);
        dueCounted("copy", x, x.copy(0, 0, 1, 0, 0), Check.MISSING);
        x.sheet(1, 16, 3);
        dueCounted("copy", x, x.copy(0, 0, 1, 0, 0), Check.KIND);
        dueCounted("copy", x, x.copy(0, 0, 0, 0, 26), Check.BEYOND);
        dueCounted("all", x, x.all(5), Check.BEYOND);
        for (int i = 0; i < 4; i++) {
            x.undo();
        }
        dueCounted("undo", x, x.undo(), Check.NONE);
    }

    private static void findingsOfFullDesks() {
        DubDesk x = new DubDesk();
        counted = 0;
        Check.addLines(x, 12);
        dueCounted("line", x, x.line(0), Check.FULL);
        for (int i = 0; i < 24; i++) {
            x.frame(0, 0);
        }
        dueCounted("frame", x, x.frame(0, 0), Check.FULL);
        for (int i = 0; i < 20; i++) {
            x.wording(0, 0, 0);
        }
        dueCounted("wording", x, x.wording(0, 0, 0), Check.FULL);
        for (int i = 0; i < 8; i++) {
            x.syllable(0, 0, 1, 1, 0);
        }
        dueCounted("syllable", x, x.syllable(0, 0, 1, 1, 0), Check.FULL);
        for (int i = 0; i < 40; i++) {
            x.text(0, 0, 0, 0);
        }
        dueCounted("text", x, x.text(0, 0, 0, 0), Check.FULL);
        for (int i = 0; i < 7; i++) {
            x.loop(4095);
        }
        dueCounted("loop", x, x.loop(1), Check.FULL);
        dueCounted("plan", x, x.plan(), Check.NONE);
        dueCounted("planned", x, x.planned(6), Check.NONE);
        Check.due("plans answers 0", x.plans(), 0);
        Check.due("and is no finding", x.all(4), counted);
    }
}
