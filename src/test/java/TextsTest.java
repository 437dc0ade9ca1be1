/** Promises 14 to 20: names, texts, what is lawful, the best and their worth. */
public final class TextsTest {
    public static void main(String[] args) {
        names();
        texts();
        barredWords();
        sortsApart();
        chosenWords();
        choiceGoesWithTheName();
        wordAndNameOf0();
        lawfulWordings();
        bestOfLines();
        bestNeedsAFit();
        worthOfAll();
        wrongInputs();
        Check.end();
    }

    private static void names() {
        DubDesk x = new DubDesk();
        Check.due("name", x.name(31, 7), -1);
        Check.due("name again", x.name(31, 0), 7);
        Check.due("name goes", x.name(31, -1), 0);
        Check.due("none goes", x.name(31, -1), -1);
        Check.due("-1 is no finding", x.all(4), 0);
        Check.due("word -1", x.name(-1, 0), Check.BEYOND);
        Check.due("word 32", x.name(32, 0), Check.BEYOND);
        Check.due("name -2", x.name(0, -2), Check.BEYOND);
        Check.due("name 8", x.name(0, 8), Check.BEYOND);
        Check.due("nothing came", x.name(0, -1), -1);
    }

    private static void texts() {
        DubDesk x = new DubDesk();
        int[][] wrong = {{-1, 0, 0, 0}, {3, 0, 0, 0}, {0, -1, 0, 0}, {0, 3, 0, 0}, {0, 0, -1, 0}, {0, 0, 32, 0},
            {0, 0, 0, -1}, {0, 0, 0, 1000}};
        for (int[] w : wrong) {
            Check.due("wrong text", x.text(w[0], w[1], w[2], w[3]), Check.BEYOND);
        }
        for (int i = 1; i <= 40; i++) {
            Check.due("text", x.text(i % 3, i % 3, i % 32, 999), i);
        }
        Check.due("text 41", x.text(0, 0, 0, 0), Check.FULL);
        Check.due("of another land too", x.text(2, 0, 0, 0), Check.FULL);
        Check.due("BEYOND ahead of FULL", x.text(3, 0, 0, 0), Check.BEYOND);
        Check.due("texts", x.all(2), 40);
    }

    private static void barredWords() {
        DubDesk x = new DubDesk();
        x.text(1, 0, 5, 10);
        Check.due("the day ahead", x.barred(1, 5, 9), 0);
        Check.due("that day", x.barred(1, 5, 10), 1);
        Check.due("later", x.barred(1, 5, 999), 1);
        Check.due("another land", x.barred(0, 5, 10), 0);
        Check.due("another word", x.barred(1, 4, 10), 0);
        x.text(1, 1, 5, 20);
        Check.due("allowed later", x.barred(1, 5, 20), 0);
        Check.due("still barred", x.barred(1, 5, 19), 1);
        x.text(1, 0, 5, 15);
        Check.due("the latest day wins, not the last told", x.barred(1, 5, 25), 0);
        Check.due("barred between", x.barred(1, 5, 16), 1);
        x.text(1, 0, 5, 20);
        Check.due("of one day the last told", x.barred(1, 5, 20), 1);
        x.text(1, 1, 5, 20);
        Check.due("and again", x.barred(1, 5, 20), 0);
        x.text(1, 0, 0, 0);
        Check.due("day 0", x.barred(1, 0, 0), 1);
    }

    private static void sortsApart() {
        DubDesk x = new DubDesk();
        x.name(3, 1);
        x.text(0, 0, 3, 1);
        x.text(0, 2, 3, 2);
        Check.due("choosing does not allow", x.barred(0, 3, 5), 1);
        Check.due("barring does not unchoose", x.chosen(0, 1, 5), 3);
        x.text(0, 1, 3, 9);
        Check.due("allowing does not unchoose", x.chosen(0, 1, 9), 3);
    }

    private static void chosenWords() {
        DubDesk x = new DubDesk();
        x.name(3, 1);
        x.name(4, 1);
        x.text(2, 2, 3, 10);
        Check.due("the day ahead", x.chosen(2, 1, 9), Check.NONE);
        Check.due("that day", x.chosen(2, 1, 10), 3);
        Check.due("another land", x.chosen(1, 1, 10), Check.NONE);
        Check.due("another name", x.chosen(2, 0, 10), Check.NONE);
        x.text(2, 2, 4, 20);
        Check.due("the latest day", x.chosen(2, 1, 20), 4);
        Check.due("the one ahead", x.chosen(2, 1, 19), 3);
        x.text(2, 2, 3, 15);
        Check.due("the last told of an earlier day", x.chosen(2, 1, 20), 4);
        x.text(2, 2, 3, 20);
        Check.due("of one day the last told", x.chosen(2, 1, 20), 3);
    }

    private static void choiceGoesWithTheName() {
        DubDesk x = new DubDesk();
        x.text(0, 2, 6, 5);
        Check.due("without a name", x.chosen(0, 2, 5), Check.NONE);
        x.name(6, 2);
        Check.due("with one", x.chosen(0, 2, 5), 6);
        x.name(6, 3);
        Check.due("with another: the old one", x.chosen(0, 2, 5), Check.NONE);
        Check.due("with another: the new one", x.chosen(0, 3, 5), 6);
        x.name(6, -1);
        Check.due("none again", x.chosen(0, 3, 5), Check.NONE);
    }

    private static void wordAndNameOf0() {
        DubDesk x = Check.deskWithLine(1);
        x.wording(0, 0, 0);
        x.syllable(0, 1, 1, 1, 1);
        x.name(0, 0);
        x.name(1, 0);
        x.text(0, 2, 0, 8);
        Check.due("word 0 for name 0", x.chosen(0, 0, 8), 0);
        Check.due("not word 1", x.lawful(0, 0, 8), 0);
        x.text(0, 2, 1, 5);
        Check.due("the first told has the latest day", x.chosen(0, 0, 9), 0);
        Check.due("ahead of it", x.chosen(0, 0, 7), 1);
        Check.due("then word 1 is it", x.lawful(0, 0, 7), 1);
        x.text(1, 0, 0, 8);
        x.text(1, 1, 0, 5);
        Check.due("barred on the latest day", x.barred(1, 0, 8), 1);
        Check.due("allowed ahead of it", x.barred(1, 0, 7), 0);
        DubDesk y = new DubDesk();
        y.text(0, 0, 0, 8);
        y.text(0, 1, 0, 5);
        Check.due("the first text of all", y.barred(0, 0, 8), 1);
    }

    private static void lawfulWordings() {
        DubDesk x = Check.deskWithLine(1);
        x.wording(0, 0, 0);
        Check.due("without syllables", x.lawful(0, 0, 0), 1);
        x.syllable(0, 0, 1, 1, 3);
        x.syllable(0, 0, 6, 6, 4);
        Check.due("without a fit, too", x.lawful(0, 0, 0), 1);
        x.text(0, 0, 4, 7);
        Check.due("barred", x.lawful(0, 0, 7), 0);
        Check.due("ahead", x.lawful(0, 0, 6), 1);
        Check.due("elsewhere", x.lawful(0, 1, 7), 1);
        x.text(0, 1, 4, 8);
        Check.due("allowed", x.lawful(0, 0, 8), 1);
        x.name(3, 5);
        x.name(9, 5);
        x.text(0, 2, 9, 9);
        Check.due("another is chosen", x.lawful(0, 0, 9), 0);
        Check.due("not yet", x.lawful(0, 0, 8), 1);
        x.text(0, 2, 3, 10);
        Check.due("its own is chosen", x.lawful(0, 0, 10), 1);
        x.text(0, 2, 9, 11);
        x.name(9, 6);
        Check.due("the chosen one has another name", x.lawful(0, 0, 11), 1);
        x.text(0, 0, 3, 12);
        Check.due("chosen but barred", x.lawful(0, 0, 12), 0);
    }

    private static void bestOfLines() {
        DubDesk x = Check.deskWithLine(1, 1);
        x.line(1);
        Check.due("none", x.best(0, 0, 0), Check.NONE);
        x.wording(0, 0, 50);
        Check.due("only one", x.best(0, 0, 0), 0);
        x.wording(0, 0, 48);
        x.syllable(1, 1, 1, 1, 1);
        Check.due("50 - 4 below 48 - 2? as much: the least number", x.best(0, 0, 0), 0);
        x.syllable(1, 1, 1, 1, 1);
        Check.due("50 - 4 below 48 - 0", x.best(0, 0, 0), 1);
        x.wording(1, 0, 100);
        Check.due("another line's does not count", x.best(0, 0, 0), 1);
        Check.due("the other line", x.best(1, 0, 0), 2);
        x.text(2, 0, 1, 30);
        Check.due("barred", x.best(0, 2, 30), 0);
        Check.due("not yet", x.best(0, 2, 29), 1);
        DubDesk y = Check.deskWithLine(1, 1, 1);
        y.wording(0, 0, 0);
        Check.due("worth below 0", y.best(0, 0, 0), 0);
        y.wording(0, 0, 1);
        Check.due("less below 0", y.best(0, 0, 0), 1);
        Check.due("sum below 0", y.worth(0, 0), -5);
    }

    private static void bestNeedsAFit() {
        DubDesk x = Check.deskWithLine(1);
        x.wording(0, 0, 100);
        x.syllable(0, 1, 2, 2, 0);
        Check.due("no fit", x.best(0, 0, 0), Check.NONE);
        Check.due("worth without one", x.worth(0, 0), 0);
        x.wording(0, 0, 10);
        Check.due("the one with a fit", x.best(0, 0, 0), 1);
        x.frame(0, 1);
        Check.due("now it fits", x.best(0, 0, 0), 0);
    }

    private static void worthOfAll() {
        DubDesk x = Check.deskWithLine(1);
        Check.addLine(x, 0, 2, 2);
        x.line(0);
        x.wording(0, 0, 20);
        x.wording(1, 0, 30);
        x.wording(1, 0, 29);
        x.syllable(2, 2, 1, 1, 8);
        Check.due("sum", x.worth(0, 0), 18 + 27);
        x.text(0, 0, 8, 100);
        Check.due("from that day", x.worth(0, 100), 18 + 26);
        Check.due("elsewhere", x.worth(1, 100), 18 + 27);
        Check.due("no lines", new DubDesk().worth(2, 999), 0);
    }

    private static void wrongInputs() {
        DubDesk x = Check.deskWithLine(1);
        x.wording(0, 0, 0);
        int[] lands = {-1, 3};
        int[] days = {-1, 1000};
        for (int i = 0; i < 2; i++) {
            Check.due("barred land", x.barred(lands[i], 0, 0), Check.BEYOND);
            Check.due("barred day", x.barred(0, 0, days[i]), Check.BEYOND);
            Check.due("barred word", x.barred(0, i == 0 ? -1 : 32, 0), Check.BEYOND);
            Check.due("chosen land", x.chosen(lands[i], 0, 0), Check.BEYOND);
            Check.due("chosen day", x.chosen(0, 0, days[i]), Check.BEYOND);
            Check.due("chosen name", x.chosen(0, i == 0 ? -1 : 8, 0), Check.BEYOND);
            Check.due("lawful land", x.lawful(0, lands[i], 0), Check.BEYOND);
            Check.due("lawful day", x.lawful(0, 0, days[i]), Check.BEYOND);
            Check.due("lawful wording", x.lawful(i == 0 ? -1 : 1, 0, 0), Check.BEYOND);
            Check.due("best land", x.best(0, lands[i], 0), Check.BEYOND);
            Check.due("best day", x.best(0, 0, days[i]), Check.BEYOND);
            Check.due("best line", x.best(i == 0 ? -1 : 1, 0, 0), Check.BEYOND);
            Check.due("worth land", x.worth(lands[i], 0), Check.BEYOND);
            Check.due("worth day", x.worth(0, days[i]), Check.BEYOND);
        }
        Check.due("findings", x.all(4), 28);
    }
}
