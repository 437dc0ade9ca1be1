/** A test for each sentence of promises 14 to 20, and of the terms' second item: names, texts, the best. */
public final class EdgesOfTextsTest {
    public static void main(String[] args) throws Exception {
        Sentences of = new Sentences();
        of.term(2, "WORDS have", EdgesOfTextsTest::namesAtFirst);
        of.term(2, "TEXTS of a LAND", EdgesOfTextsTest::textsOfLands);
        of.term(2, "IN FORCE", EdgesOfTextsTest::inForce);
        of.term(2, "A WORDING is LAWFUL", EdgesOfTextsTest::isLawful);
        of.term(2, "WORTH of a WORDING", EdgesOfTextsTest::worthOfOne);
        of.term(2, "THE BEST of a LINE", EdgesOfTextsTest::theBest);
        of.endOfTerms(2);
        of.promise(14, "The NAME of a WORD becomes another one (-1: none): what it was (-1: none, no finding).",
            EdgesOfTextsTest::name);
        of.promise(14, "BEYOND: no such WORD, or NAME.", EdgesOfTextsTest::nameBeyond);
        of.promise(15, "A TEXT of a LAND: how many there are.", EdgesOfTextsTest::text);
        of.promise(15, "BEYOND: no such LAND, sort, WORD, or DAY.", EdgesOfTextsTest::textBeyond);
        of.promise(15, "FULL: there are 40.", EdgesOfTextsTest::textFull);
        of.order(15, EdgesOfTextsTest::textOrder);
        of.promise(16, "Whether a WORD is barred in a LAND on a DAY: 1, 0.", EdgesOfTextsTest::barred);
        of.promise(16, "BEYOND.", EdgesOfTextsTest::barredBeyond);
        of.promise(17, "The WORD that is CHOSEN for a NAME in a LAND on a DAY.", EdgesOfTextsTest::chosen);
        of.promise(17, "BEYOND.", EdgesOfTextsTest::chosenBeyond);
        of.promise(17, "NONE.", EdgesOfTextsTest::chosenNone);
        of.order(17, EdgesOfTextsTest::chosenOrder);
        of.promise(18, "Whether a WORDING is LAWFUL in a LAND on a DAY: 1; 0.", EdgesOfTextsTest::lawful);
        of.promise(18, "BEYOND.", EdgesOfTextsTest::lawfulBeyond);
        of.promise(19, "THE BEST of a LINE.", EdgesOfTextsTest::best);
        of.promise(19, "BEYOND: no such LINE, LAND, or DAY.", EdgesOfTextsTest::bestBeyond);
        of.promise(19, "NONE.", EdgesOfTextsTest::bestNone);
        of.order(19, EdgesOfTextsTest::bestOrder);
        of.promise(20, "The sum of WORTH of THE BEST of all LINES (of those that have one) in a LAND on a DAY.",
            EdgesOfTextsTest::worth);
        of.promise(20, "BEYOND.", EdgesOfTextsTest::worthBeyond);
        of.endOfPromises(14, 20);
        Check.end();
    }

    /** A line with one frame and a wording with these words, which has a fit only if there is one word at most. */
    private static DubDesk spoken(int... words) {
        DubDesk x = Check.deskWithLine(1);
        x.wording(0, 0, 9);
        for (int word : words) {
            x.syllable(0, 1, 1, 1, word);
        }
        return x;
    }

    private static void namesAtFirst() {
        DubDesk x = new DubDesk();
        for (int word = 0; word < 32; word++) {
            Check.due("none at first", x.name(word, word % 8), -1);
        }
        for (int word = 0; word < 32; word++) {
            Check.due("its name", x.name(word, -1), word % 8);
        }
        for (int word = 0; word < 32; word++) {
            Check.due("none again", x.name(word, 7), -1);
        }
        Edges.range("name", Desks.SOME, -1, 7, (y, v) -> y.name(9, v));
    }

    private static void textsOfLands() {
        landsAreApart();
        DubDesk x = new DubDesk();
        x.text(0, 0, 5, 0);
        x.text(0, 0, 6, 999);
        x.text(0, 0, 7, 500);
        Check.due("from day 0 on", x.barred(0, 5, 0), 1);
        Check.due("ahead of day 999", x.barred(0, 6, 998), 0);
        Check.due("from day 999 on", x.barred(0, 6, 999), 1);
        Check.due("ahead of day 500", x.barred(0, 7, 499), 0);
        Check.due("from day 500 on", x.barred(0, 7, 500), 1);
        Check.due("later", x.barred(0, 7, 999), 1);
        x.text(0, 1, 7, 600);
        Check.due("ahead of 600", x.barred(0, 7, 599), 1);
        Check.due("allowed from 600 on", x.barred(0, 7, 600), 0);
        x.text(0, 2, 8, 70);
        Check.due("chosen, but it has no name", x.chosen(0, 0, 70), Check.NONE);
        x.name(8, 0);
        Check.due("chosen for the one that it has now", x.chosen(0, 0, 70), 8);
        Check.due("ahead of 70", x.chosen(0, 0, 69), Check.NONE);
        x.name(8, 7);
        Check.due("not for the one that it had", x.chosen(0, 0, 70), Check.NONE);
        Check.due("for the other one", x.chosen(0, 7, 70), 8);
        x.name(8, -1);
        Check.due("none while it has none", x.chosen(0, 7, 70), Check.NONE);
    }

    private static void landsAreApart() {
        for (int land = 0; land < 3; land++) {
            DubDesk x = new DubDesk();
            x.name(3, 4);
            x.text(land, 0, 3, 1);
            x.text(land, 2, 3, 1);
            for (int other = 0; other < 3; other++) {
                Check.due("barred in a land", x.barred(other, 3, 1), other == land ? 1 : 0);
                Check.due("chosen in a land", x.chosen(other, 4, 1), other == land ? 3 : Check.NONE);
            }
        }
    }

    private static void inForce() {
        DubDesk x = new DubDesk();
        x.text(0, 0, 5, 20);
        x.text(0, 1, 5, 10);
        Check.due("the latest day, though told first", x.barred(0, 5, 20), 1);
        Check.due("a day ahead: the other", x.barred(0, 5, 19), 0);
        x.text(0, 1, 5, 20);
        Check.due("of one day the one told last", x.barred(0, 5, 20), 0);
        x.text(0, 0, 5, 20);
        Check.due("and again", x.barred(0, 5, 20), 1);
        x.text(0, 1, 6, 30);
        Check.due("not that of another word", x.barred(0, 5, 30), 1);
        x.text(1, 1, 5, 30);
        Check.due("not that of another land", x.barred(0, 5, 30), 1);
        x.name(5, 0);
        x.text(0, 2, 5, 40);
        Check.due("not that of sort 2", x.barred(0, 5, 40), 1);
        choiceInForce();
    }

    private static void choiceInForce() {
        DubDesk x = new DubDesk();
        x.name(1, 3);
        x.name(2, 3);
        x.name(9, 4);
        x.text(0, 2, 1, 20);
        x.text(0, 2, 2, 10);
        Check.due("the latest day, though told first", x.chosen(0, 3, 20), 1);
        Check.due("a day ahead: the other", x.chosen(0, 3, 19), 2);
        x.text(0, 2, 2, 20);
        Check.due("of one day the one told last", x.chosen(0, 3, 20), 2);
        x.text(0, 2, 9, 30);
        Check.due("not that of another name", x.chosen(0, 3, 30), 2);
        x.text(0, 0, 2, 40);
        x.text(0, 1, 2, 50);
        Check.due("not those of sorts 0 and 1", x.chosen(0, 3, 50), 2);
        x.name(2, 4);
        Check.due("its name went: the one ahead of it", x.chosen(0, 3, 20), 1);
        Check.due("for its new name: by the latest day", x.chosen(0, 4, 30), 9);
        Check.due("for its new name: a day ahead", x.chosen(0, 4, 29), 2);
    }

    private static void isLawful() {
        DubDesk none = spoken();
        none.text(0, 0, 0, 0);
        Check.due("without words", none.lawful(0, 0, 0), 1);
        int[] words = {10, 11, 12, 13, 14, 15, 16, 17};
        for (int word : words) {
            DubDesk x = spoken(words);
            Check.due("none barred", x.lawful(0, 0, 5), 1);
            x.text(0, 0, word, 5);
            Check.due("one of eight is barred", x.lawful(0, 0, 5), 0);
            Check.due("a day ahead", x.lawful(0, 0, 4), 1);
            Check.due("another land", x.lawful(0, 1, 5), 1);
        }
        DubDesk x = spoken(10);
        x.name(10, 0);
        x.name(20, 0);
        Check.due("none is chosen", x.lawful(0, 0, 5), 1);
        x.text(0, 2, 20, 5);
        Check.due("another is chosen", x.lawful(0, 0, 5), 0);
        Check.due("a day ahead", x.lawful(0, 0, 4), 1);
        x.text(0, 2, 10, 6);
        Check.due("it is the chosen one", x.lawful(0, 0, 6), 1);
        Check.due("the day ahead", x.lawful(0, 0, 5), 0);
        x.text(0, 0, 10, 7);
        Check.due("the chosen one is barred", x.lawful(0, 0, 7), 0);
        x.name(10, -1);
        Check.due("without a name", x.lawful(0, 0, 5), 1);
        x.name(10, 1);
        Check.due("of a name for which none is chosen", x.lawful(0, 0, 5), 1);
        wordsWithoutNames();
        wordZeroIsChosen();
    }

    private static void wordsWithoutNames() {
        DubDesk x = spoken(10);
        x.text(0, 2, 20, 5);
        Check.due("neither has a name, so none is chosen", x.lawful(0, 0, 5), 1);
        x.name(20, 0);
        Check.due("the other has one, this has none", x.lawful(0, 0, 5), 1);
        x.name(10, 0);
        Check.due("both have it", x.lawful(0, 0, 5), 0);
        x.name(20, -1);
        Check.due("the other lost it", x.lawful(0, 0, 5), 1);
    }

    private static void wordZeroIsChosen() {
        DubDesk x = spoken(10);
        x.name(10, 0);
        x.name(0, 0);
        x.text(0, 2, 0, 5);
        Check.due("word 0 is chosen, not this", x.lawful(0, 0, 5), 0);
        DubDesk y = spoken(0);
        y.name(10, 0);
        y.name(0, 0);
        y.text(0, 2, 0, 5);
        Check.due("word 0 is chosen, and is this", y.lawful(0, 0, 5), 1);
    }

    private static void worthOfOne() {
        DubDesk x = spoken(0);
        Check.due("cost 0: its sense", x.worth(0, 0), 9);
        x.cut(0);
        Check.due("cost 2: less 2", x.worth(0, 0), 7);
        DubDesk dear = Check.deskWithLine(new int[24]);
        dear.wording(0, 0, 0);
        for (int i = 0; i < 4; i++) {
            dear.syllable(0, 1, 6, 6, 0);
        }
        Check.due("the least worth there is", dear.worth(0, 0), -72);
        Check.due("still the best", dear.best(0, 0, 0), 0);
        dear.wording(0, 0, 100);
        Check.due("the greatest worth there is", dear.worth(0, 0), 100);
    }

    private static void theBest() {
        DubDesk x = Check.deskWithLine(1, 1);
        x.wording(0, 0, 50);
        x.wording(0, 0, 51);
        Check.due("the greatest", x.best(0, 0, 0), 1);
        x.wording(0, 0, 51);
        Check.due("of several the least number", x.best(0, 0, 0), 1);
        x.syllable(2, 1, 1, 1, 5);
        Check.due("less cost", x.best(0, 0, 0), 2);
        x.text(0, 0, 5, 10);
        Check.due("not a lawful one", x.best(0, 0, 10), 1);
        Check.due("a day ahead", x.best(0, 0, 9), 2);
        Check.due("in another land", x.best(0, 1, 10), 2);
        x.syllable(2, 1, 2, 2, 6);
        Check.due("without a fit", x.best(0, 0, 9), 1);
        x.line(0);
        x.wording(1, 0, 100);
        Check.due("not that of another line", x.best(0, 0, 0), 1);
        DubDesk below = Check.deskWithLine(1, 1);
        below.wording(0, 0, 0);
        below.wording(0, 0, 0);
        Check.due("below 0, of several the least number", below.best(0, 0, 0), 0);
    }

    private static void name() {
        DubDesk x = new DubDesk();
        Check.due("none", x.name(0, 0), -1);
        Check.due("name 0", x.name(0, 7), 0);
        Check.due("name 7", x.name(0, 7), 7);
        Check.due("name 7 still", x.name(0, -1), 7);
        Check.due("none", x.name(0, -1), -1);
        Check.due("the last word", x.name(31, 5), -1);
        Check.due("no finding", x.all(4), 0);
    }

    private static void nameBeyond() {
        Edges.range("name of word", Desks.BARE, 0, 31, (x, v) -> x.name(v, 0));
        Edges.range("name of word", Desks.SOME, 0, 31, (x, v) -> x.name(v, -1));
        Edges.range("name", Desks.BARE, -1, 7, (x, v) -> x.name(0, v));
        Edges.range("name", Desks.SOME, -1, 7, (x, v) -> x.name(31, v));
    }

    private static void text() {
        DubDesk x = new DubDesk();
        Check.due("the first", x.text(0, 0, 0, 0), 1);
        Check.due("of another land", x.text(2, 1, 31, 999), 2);
        Check.due("the same again", x.text(2, 1, 31, 999), 3);
        Check.due("of sort 2, without a name", x.text(1, 2, 5, 5), 4);
    }

    private static void textBeyond() {
        Edges.range("text of land", Desks.SOME, 0, 2, (x, v) -> x.text(v, 0, 0, 0));
        Edges.range("text of sort", Desks.SOME, 0, 2, (x, v) -> x.text(0, v, 0, 0));
        Edges.range("text of word", Desks.SOME, 0, 31, (x, v) -> x.text(0, 0, v, 0));
        Edges.range("text of day", Desks.SOME, 0, 999, (x, v) -> x.text(0, 0, 0, v));
        Edges.range("text of day", Desks.BARE, 0, 999, (x, v) -> x.text(2, 2, 31, v));
    }

    private static void textFull() {
        DubDesk x = new DubDesk();
        for (int i = 0; i < 39; i++) {
            x.text(i % 3, 1, 0, 0);
        }
        Check.due("the last", x.text(2, 0, 0, 0), 40);
        Check.due("one more", x.text(2, 1, 0, 0), Check.FULL);
        Check.due("the last is in force", x.barred(2, 0, 0), 1);
        x.undo();
        Check.due("one less: the last again", x.text(0, 0, 0, 0), 40);
        for (int land = 0; land < 3; land++) {
            for (int sort = 0; sort < 3; sort++) {
                int l = land;
                int s = sort;
                Edges.refused("one more", Desks.FULL, y -> y.text(l, s, 31, 999), Check.FULL);
            }
        }
    }

    private static void textOrder() {
        int[][] wrong = {{3, 0, 0, 0}, {-1, 0, 0, 0}, {0, 3, 0, 0}, {0, -1, 0, 0}, {0, 0, 32, 0}, {0, 0, -1, 0},
            {0, 0, 0, 1000}, {0, 0, 0, -1}};
        for (int[] w : wrong) {
            Edges.beyond("no such one, and 40", Desks.FULL, x -> x.text(w[0], w[1], w[2], w[3]));
        }
    }

    private static void barred() {
        DubDesk x = new DubDesk();
        x.text(2, 0, 31, 999);
        Check.due("barred", x.barred(2, 31, 999), 1);
        Check.due("a day ahead", x.barred(2, 31, 998), 0);
        Check.due("another word", x.barred(2, 30, 999), 0);
        Check.due("another land", x.barred(1, 31, 999), 0);
        x.undo();
        Check.due("its text went", x.barred(2, 31, 999), 0);
        DubDesk full = new DubDesk();
        for (int i = 0; i < 39; i++) {
            full.text(0, 1, 5, 10);
        }
        full.text(0, 0, 5, 10);
        Check.due("the 40th is in force", full.barred(0, 5, 10), 1);
        Edges.unchanged("barred", Desks.SOME, y -> y.barred(0, 4, 150));
    }

    private static void barredBeyond() {
        Edges.range("barred in land", Desks.SOME, 0, 2, (x, v) -> x.barred(v, 0, 0));
        Edges.range("barred word", Desks.SOME, 0, 31, (x, v) -> x.barred(0, v, 0));
        Edges.range("barred on day", Desks.SOME, 0, 999, (x, v) -> x.barred(0, 0, v));
        Edges.range("barred on day", Desks.BARE, 0, 999, (x, v) -> x.barred(2, 31, v));
    }

    /** Words 0 and 31 are chosen for names 0 and 7 in all lands from day 0 on. */
    private static DubDesk choosing() {
        DubDesk x = new DubDesk();
        x.name(0, 0);
        x.name(31, 7);
        for (int land = 0; land < 3; land++) {
            x.text(land, 2, 0, 0);
            x.text(land, 2, 31, 0);
        }
        return x;
    }

    private static void chosen() {
        for (int land = 0; land < 3; land++) {
            Check.due("word 0", choosing().chosen(land, 0, 0), 0);
            Check.due("word 31", choosing().chosen(land, 7, 999), 31);
        }
        Edges.unchanged("chosen", Desks.SOME, x -> x.chosen(1, 1, 50));
    }

    private static void chosenBeyond() {
        Desks.Maker maker = EdgesOfTextsTest::choosing;
        Edges.range("chosen in land", maker, 0, 2, (x, v) -> x.chosen(v, 0, 0));
        Edges.range("chosen for name", maker, 0, 7, (x, v) -> x.chosen(0, v, 0));
        Edges.range("chosen on day", maker, 0, 999, (x, v) -> x.chosen(0, 0, v));
    }

    private static void chosenNone() {
        Edges.refused("no texts", Desks.BARE, x -> x.chosen(0, 0, 999), Check.NONE);
        Edges.refused("a day ahead", Desks.SOME, x -> x.chosen(1, 1, 49), Check.NONE);
        Edges.refused("another land", Desks.SOME, x -> x.chosen(0, 1, 50), Check.NONE);
        Edges.refused("another name", Desks.SOME, x -> x.chosen(1, 2, 50), Check.NONE);
        Check.due("there is one", Desks.SOME.make().chosen(1, 1, 50), 5);
        DubDesk x = Desks.SOME.make();
        x.name(5, -1);
        Check.due("its name went", x.chosen(1, 1, 50), Check.NONE);
    }

    private static void chosenOrder() {
        int[][] wrong = {{3, 0, 0}, {-1, 0, 0}, {0, 8, 0}, {0, -1, 0}, {0, 0, 1000}, {0, 0, -1}};
        for (int[] w : wrong) {
            Edges.beyond("no such one, and none is chosen", Desks.BARE, x -> x.chosen(w[0], w[1], w[2]));
        }
    }

    private static void lawful() {
        DubDesk x = spoken(31);
        x.text(2, 0, 31, 999);
        Check.due("not lawful", x.lawful(0, 2, 999), 0);
        Check.due("a day ahead", x.lawful(0, 2, 998), 1);
        x.syllable(0, 0, 6, 6, 0);
        Check.due("without a fit, not lawful", x.lawful(0, 2, 999), 0);
        Check.due("without a fit, lawful", x.lawful(0, 0, 0), 1);
        x.cut(0);
        x.cut(0);
        Check.due("the word was cut", x.lawful(0, 2, 999), 1);
        Check.due("no finding", x.all(4), 0);
        Edges.unchanged("lawful", Desks.SOME, y -> y.lawful(0, 0, 150));
    }

    private static void lawfulBeyond() {
        Edges.beyond("without wordings", Desks.lines(1), x -> x.lawful(0, 0, 0));
        Edges.range("lawful of wording", Desks.SOME, 0, 3, (x, v) -> x.lawful(v, 0, 0));
        Edges.range("lawful of wording", Desks.FULL, 0, 19, (x, v) -> x.lawful(v, 0, 0));
        Edges.range("lawful in land", Desks.SOME, 0, 2, (x, v) -> x.lawful(0, v, 0));
        Edges.range("lawful on day", Desks.SOME, 0, 999, (x, v) -> x.lawful(0, 0, v));
    }

    private static void best() {
        DubDesk x = new DubDesk();
        Check.addLines(x, 12);
        for (int i = 0; i < 20; i++) {
            x.wording(i % 12, 0, i);
        }
        Check.due("of line 0", x.best(0, 0, 0), 12);
        Check.due("of line 7", x.best(7, 1, 500), 19);
        Check.due("of line 8", x.best(8, 1, 500), 8);
        Check.due("of line 11", x.best(11, 2, 999), 11);
        Edges.unchanged("best", Desks.SOME, y -> y.best(0, 0, 150));
    }

    private static void bestBeyond() {
        Edges.beyond("without lines", Desks.BARE, x -> x.best(0, 0, 0));
        Edges.range("best of line", Desks.FULL, 0, 11, (x, v) -> x.best(v, 0, 0));
        Edges.range("best in land", Desks.SOME, 0, 2, (x, v) -> x.best(0, v, 0));
        Edges.range("best on day", Desks.SOME, 0, 999, (x, v) -> x.best(0, 0, v));
    }

    private static void bestNone() {
        Edges.refused("without wordings", Desks.lines(1), x -> x.best(0, 0, 0), Check.NONE);
        Edges.refused("without a fit", Desks.SOME, x -> x.best(1, 0, 0), Check.NONE);
        Desks.Maker barred = () -> {
            DubDesk x = spoken(3);
            x.text(0, 0, 3, 5);
            return x;
        };
        Edges.refused("not lawful", barred, x -> x.best(0, 0, 5), Check.NONE);
        Check.due("a day ahead", barred.make().best(0, 0, 4), 0);
    }

    private static void bestOrder() {
        int[][] wrong = {{1, 0, 0}, {-1, 0, 0}, {0, 3, 0}, {0, -1, 0}, {0, 0, 1000}, {0, 0, -1}};
        Desks.Maker silent = Desks.lines(1);
        for (int[] w : wrong) {
            Edges.beyond("no such one, and no best", silent, x -> x.best(w[0], w[1], w[2]));
        }
    }

    private static void worth() {
        Check.due("without lines", new DubDesk().worth(0, 0), 0);
        Check.due("without wordings", Desks.lines(12).make().worth(2, 999), 0);
        DubDesk x = new DubDesk();
        Check.addLines(x, 12);
        for (int i = 0; i < 20; i++) {
            x.wording(i % 12, 0, 100);
        }
        Check.due("twelve of the greatest", x.worth(2, 999), 1200);
        Check.due("line 1 has none, line 2 one of worth 0", Desks.SOME.make().worth(0, 150), 40 - 6);
        Check.due("a day on which more is lawful", Desks.SOME.make().worth(0, 0), 50 - 1);
        Edges.unchanged("worth", Desks.SOME, y -> y.worth(0, 150));
    }

    private static void worthBeyond() {
        Edges.range("worth in land", Desks.SOME, 0, 2, (x, v) -> x.worth(v, 0));
        Edges.range("worth on day", Desks.SOME, 0, 999, (x, v) -> x.worth(0, v));
        Edges.range("worth in land", Desks.BARE, 0, 2, (x, v) -> x.worth(v, 999));
        Edges.range("worth on day", Desks.BARE, 0, 999, (x, v) -> x.worth(2, v));
    }
}
