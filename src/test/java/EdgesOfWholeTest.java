import java.util.ArrayList;
import java.util.List;

/** A test for each sentence of promises 34 and 35, and of what the terms say ahead of their items. */
public final class EdgesOfWholeTest {
    /** The acts that can be undone, each as one call that FEW takes and that changes it. */
    private static final Watch.Call[] ACTS = {
        x -> x.line(4),
        x -> x.frame(0, 3),
        x -> x.frame(1, 0),
        x -> x.wording(1, 2, 33),
        x -> x.syllable(0, 2, 1, 4, 9),
        x -> x.syllable(1, 0, 6, 6, 31),
        x -> x.cut(0),
        x -> x.name(6, 5),
        x -> x.name(6, -1),
        x -> x.name(0, 0),
        x -> x.text(1, 2, 6, 3),
        x -> x.text(0, 1, 7, 500),
        x -> x.actor(0, -1),
        x -> x.actor(0, 0),
        x -> x.actor(5, 7),
        x -> x.free(1, 0),
        x -> x.free(7, 14),
        x -> x.room(2, 100),
        x -> x.room(0, 0),
        x -> x.loop(2),
        x -> x.unloop(),
        x -> x.change(0, 0),
        x -> x.change(0, 2),
        x -> x.change(1, 2),
    };

    /** Such as change nothing, but can be undone. */
    private static final Watch.Call[] IDLE_ACTS = {
        x -> x.name(6, 2),
        x -> x.name(31, -1),
        x -> x.actor(0, 1),
        x -> x.actor(5, -1),
        x -> x.free(1, 12),
        x -> x.free(7, 15),
        x -> x.room(2, 4),
        x -> x.room(3, 60),
    };

    /** Such as can not be undone, taken by FEW. */
    private static final Watch.Call[] OTHERS = {
        x -> x.as(0, 0),
        x -> x.of(0, 0),
        x -> x.told(0, 0),
        x -> x.shape(0, 0),
        x -> x.cost(0),
        x -> x.place(0, 0, false),
        x -> x.on(0, 0),
        x -> x.barred(0, 7, 500),
        x -> x.lawful(0, 0, 500),
        x -> x.best(0, 0, 500),
        x -> x.worth(0, 500),
        x -> x.plan(),
        x -> x.planned(0),
        x -> x.plans(),
        x -> x.kept(0, 1),
        x -> x.sheet(3, 8, 2),
        x -> x.sheet(0, 0, 0),
        x -> x.put(0, 0, 3),
        x -> x.copy(0, 0, 2, 0, 3),
        x -> x.all(0),
    };

    public static void main(String[] args) throws Exception {
        Sentences of = new Sentences();
        of.term(0, "FINDINGS are answers", EdgesOfWholeTest::findings);
        of.term(0, "Each act tells its findings", EdgesOfWholeTest::refusedActs);
        of.term(0, "Sets are told by bits", EdgesOfWholeTest::sets);
        of.endOfTerms(0);
        of.promise(34, "The latest act that changed the desk (line, frame, wording, syllable, cut, name, text, actor,"
            + " free, room, loop, unloop, change, without a finding) is undone: how many more can be.",
            EdgesOfWholeTest::undo);
        of.promise(34, "NONE.", EdgesOfWholeTest::undoNone);
        of.promise(34, "(The latest 20 are kept; also such as changed nothing.)", EdgesOfWholeTest::latestTwenty);
        of.promise(35, "0 LINES, 1 WORDINGS, 2 TEXTS, 3 LOOPS, 4 how many acts answered a finding ever"
            + " (this one, too, if it does).", EdgesOfWholeTest::all);
        of.promise(35, "BEYOND: another what.", EdgesOfWholeTest::allBeyond);
        of.endOfPromises(34, 35);
        the512thCall();
        theWatchSeesSheets();
        Check.end();
    }

    private static void findings() {
        Check.due("BEYOND", new DubDesk().line(6), -100001);
        Check.due("MISSING", new DubDesk().put(0, 0, 0), -100002);
        Check.due("SIZE", new DubDesk().loop(0), -100003);
        Check.due("KIND", Desks.SOME.make().as(0, 1), -100004);
        Check.due("FULL", Desks.lines(12).make().line(0), -100005);
        Check.due("NONE", new DubDesk().undo(), -100006);
        DubDesk x = Check.deskWithLine(new int[24]);
        x.wording(0, 0, 0);
        for (int i = 0; i < 4; i++) {
            x.syllable(0, 1, 6, 6, 0);
        }
        Check.due("an answer below 0", x.worth(0, 0), -72);
        Check.due("is none", x.all(4), 0);
    }

    /** What was refused leaves no trace: the same acts behind it answer the same. */
    private static void refusedActs() {
        Watch.Call[] refused = {x -> x.line(6), x -> x.frame(0, 4), x -> x.wording(0, 0, 101), x -> x.as(0, 1),
            x -> x.syllable(0, 3, 3, 2, 9), x -> x.cut(1), x -> x.name(6, 8), x -> x.text(0, 0, 6, 1000),
            x -> x.actor(0, 8), x -> x.free(1, 16), x -> x.room(2, 101), x -> x.loop(4), x -> x.loop(0),
            x -> x.change(0, 1), x -> x.change(0, 3), x -> x.sheet(0, 16, 31), x -> x.put(0, 3, 3),
            x -> x.copy(0, 1, 2, 0, 3), x -> x.all(5)};
        for (int i = 0; i < refused.length; i++) {
            int at = i;
            Edges.unchanged("refused " + i, Desks.FEW, x -> refused[at].ask(x));
            for (int k = 0; k < ACTS.length; k++) {
                DubDesk with = Desks.FEW.make();
                int before = with.all(4);
                refused[i].ask(with);
                Check.due("refused " + i + " is counted", with.all(4), before + 1);
                Check.due("act " + k + " behind it", ACTS[k].ask(with), ACTS[k].ask(Desks.FEW.make()));
            }
        }
    }

    private static void sets() {
        DubDesk x = Desks.lines(4).make();
        for (int part = 0; part < 4; part++) {
            x.actor(part, part);
        }
        x.loop(1 | 4);
        Check.due("lines 0 and 2", x.plan(), 2);
        x.free(0, 2 | 8);
        x.free(1, 0);
        x.free(3, 0);
        Check.due("days 1 and 3", x.plans(), 2);
        Check.due("day 1", x.planned(0), 1);
        x.free(2, 8 | 1);
        Check.due("day 3", x.planned(0), 3);
    }

    private static void undo() {
        for (int i = 0; i < ACTS.length; i++) {
            Watch.Call act = ACTS[i];
            Edges.changed("act " + i, Desks.FEW, act);
            Check.due("undo of act " + i, undone(act), Desks.FEW_ACTS);
            Edges.unchanged("act " + i + " and its undo", Desks.FEW, x -> act.ask(x) + x.undo());
            twoActs(i);
        }
        for (int i = 0; i < OTHERS.length; i++) {
            DubDesk x = Desks.FEW.make();
            Check.due("other " + i + " is no finding", OTHERS[i].ask(x) < -99999 ? 1 : 0, 0);
            Check.due("other " + i + ": the loop is undone", x.undo(), Desks.FEW_ACTS - 1);
            Check.due("other " + i + ": the loop is undone", x.all(3), 0);
        }
        cutSyllables();
        DubDesk x = Desks.FEW.make();
        x.undo();
        Check.due("an undo is not undone: the room is", x.undo(), Desks.FEW_ACTS - 2);
        Check.due("the room", x.room(2, 4), 60);
    }

    /** On closed frames a syllable shows its least, on frames of its shape its most. */
    private static void cutSyllables() {
        for (int shape = 0; shape < 2; shape++) {
            int[] frames = new int[6];
            java.util.Arrays.fill(frames, shape);
            Desks.Maker maker = () -> {
                DubDesk x = Check.deskWithLine(frames);
                x.wording(0, 0, 0);
                x.syllable(0, 1, 2, 5, 9);
                x.text(0, 0, 9, 0);
                return x;
            };
            Edges.unchanged("cut and its undo", maker, x -> x.cut(0) + x.undo());
            Edges.unchanged("cut, another, and their undos", maker,
                x -> x.cut(0) + x.syllable(0, 2, 3, 4, 8) + x.undo() + x.undo());
        }
    }

    private static int undone(Watch.Call act) {
        DubDesk x = Desks.FEW.make();
        act.ask(x);
        return x.undo();
    }

    /** Two acts, the second one perhaps on what the first left, and both undone. */
    private static void twoActs(int first) {
        for (int second = 0; second < ACTS.length; second++) {
            Watch.Call a = ACTS[first];
            Watch.Call b = ACTS[second];
            DubDesk probe = Desks.FEW.make();
            a.ask(probe);
            if (b.ask(probe) >= -99999) {
                Edges.unchanged("acts " + first + " and " + second + " and their undos", Desks.FEW,
                    x -> a.ask(x) + b.ask(x) + x.undo() + x.undo());
            }
        }
    }

    private static void undoNone() {
        Edges.refused("nothing was done", Desks.BARE, DubDesk::undo, Check.NONE);
        Desks.Maker sheeted = () -> {
            DubDesk x = new DubDesk();
            Desks.fill(x, 0, 8, 1, 2);
            x.copy(0, 0, 0, 1, 1);
            x.line(6);
            return x;
        };
        Edges.refused("only what can not be undone", sheeted, DubDesk::undo, Check.NONE);
        Desks.Maker undone = () -> {
            DubDesk x = Desks.FEW.make();
            for (int more = Desks.FEW_ACTS - 1; more >= 0; more--) {
                Check.due("how many more", x.undo(), more);
            }
            return x;
        };
        Edges.refused("all was undone", undone, DubDesk::undo, Check.NONE);
        Check.due("no lines", undone.make().all(0), 0);
        Check.due("no texts", undone.make().all(2), 0);
    }

    private static void latestTwenty() {
        for (int acts = 1; acts <= 45; acts++) {
            DubDesk x = new DubDesk();
            for (int i = 0; i < acts; i++) {
                x.room(0, i);
            }
            int kept = Math.min(acts, 20);
            for (int more = kept - 1; more >= 0; more--) {
                Check.due(acts + " acts, how many more", x.undo(), more);
            }
            Check.due(acts + " acts, no more", x.undo(), Check.NONE);
            Check.due(acts + " acts, what stays", x.room(0, 60), acts <= 20 ? 60 : acts - 21);
            Check.due(acts + " acts, one more", x.undo(), 0);
        }
        for (int i = 0; i < IDLE_ACTS.length; i++) {
            Watch.Call act = IDLE_ACTS[i];
            Check.due("idle act " + i, undone(act), Desks.FEW_ACTS);
            Edges.unchanged("idle act " + i + " and its undo", Desks.FEW, x -> act.ask(x) + x.undo());
        }
        sameFrames();
        idleActsPushOut();
        actsAndUndosInTurn();
    }

    /** Rows of acts and of undos of all lengths, so that the twenty begin anywhere. */
    private static void actsAndUndosInTurn() {
        for (int acts = 1; acts <= 23; acts++) {
            for (int undos = 1; undos <= 21; undos++) {
                DubDesk x = new DubDesk();
                List<Integer> rooms = new ArrayList<>(List.of(60));
                for (int turn = 0; turn < 5; turn++) {
                    for (int i = 0; i < acts; i++) {
                        int v = (31 * turn + i) % 101;
                        Check.due("room", x.room(1, v), rooms.get(rooms.size() - 1));
                        rooms.add(v);
                        while (rooms.size() > 21) {
                            rooms.remove(0);
                        }
                    }
                    for (int i = 0; i < undos; i++) {
                        int more = rooms.size() - 2;
                        Check.due(acts + " acts, " + undos + " undos", x.undo(), more < 0 ? Check.NONE : more);
                        if (more >= 0) {
                            rooms.remove(rooms.size() - 1);
                        }
                    }
                }
            }
        }
    }

    private static void sameFrames() {
        DubDesk x = Check.deskWithLine(1, 2);
        Desks.fill(x, 0, 8, 1, 2);
        Check.due("the same frames", x.change(0, 0), 2);
        Check.due("its undo", x.undo(), 3);
        Check.due("they stay", x.told(0, 1), 2);
    }

    private static void idleActsPushOut() {
        DubDesk x = Desks.lines(1).make();
        for (int i = 0; i < 20; i++) {
            x.name(0, -1);
        }
        for (int more = 19; more >= 0; more--) {
            Check.due("idle ones", x.undo(), more);
        }
        Check.due("the line is no more kept", x.undo(), Check.NONE);
        Check.due("it stays", x.all(0), 1);
        DubDesk y = Desks.lines(1).make();
        for (int i = 0; i < 19; i++) {
            y.name(0, -1);
        }
        for (int more = 19; more >= 0; more--) {
            Check.due("idle ones, and the line", y.undo(), more);
        }
        Check.due("it went", y.all(0), 0);
    }

    private static void all() {
        DubDesk x = Desks.FULL.make();
        int[] due = {12, 20, 40, 7, 0};
        for (int what = 0; what <= 4; what++) {
            Check.due("all(" + what + ")", x.all(what), due[what]);
        }
        x.line(0);
        x.undo();
        x.all(5);
        x.kept(12, 0);
        Check.due("findings of all acts, undone or not", x.all(4), 3);
        Check.due("asking does not count", x.all(4), 3);
        Check.due("this one, too", x.all(-1), Check.BEYOND);
        Check.due("this one was counted", x.all(4), 4);
        DubDesk y = Desks.lines(1).make();
        y.undo();
        y.undo();
        Check.due("the undo that found none", y.all(4), 1);
        Check.due("of each desk its own", new DubDesk().all(4), 0);
        Edges.unchanged("all", Desks.SOME, z -> z.all(4));
    }

    private static void allBeyond() {
        Edges.range("all", Desks.BARE, 0, 4, DubDesk::all);
        Edges.range("all", Desks.SOME, 0, 4, DubDesk::all);
    }

    /** A desk is used for at most 512 calls; all of them are answered as promised. */
    private static void the512thCall() {
        DubDesk x = new DubDesk();
        for (int i = 0; i < 511; i++) {
            x.all(5);
        }
        Check.due("the 512th call", x.all(4), 511);
        DubDesk y = new DubDesk();
        for (int i = 0; i < 511; i++) {
            y.room(0, i % 100);
        }
        Check.due("the 512th call", y.undo(), 19);
    }

    /** Refused calls are held to change nothing that the watch sees; so it must see these. */
    private static void theWatchSeesSheets() {
        Edges.changed("sheet", Desks.SOME, x -> x.sheet(3, 8, 0));
        Edges.changed("sheet of as many", Desks.SOME, x -> x.sheet(0, 8, 3));
        Edges.changed("sheet of other bits", Desks.SOME, x -> x.sheet(1, 32, 25));
        Edges.changed("sheet that goes", Desks.SOME, x -> x.sheet(2, 0, 0));
        Edges.changed("put", Desks.SOME, x -> x.put(1, 24, 2));
        Edges.changed("copy", Desks.SOME, x -> x.copy(0, 0, 2, 2, 3));
    }
}
