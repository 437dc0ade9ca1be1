/** A test for each sentence of promises 21 to 28, and of the terms' third item: actors, rooms, loops, plans. */
public final class EdgesOfLoopsTest {
    private static final int ALL_LINES = (1 << 12) - 1;

    public static void main(String[] args) throws Exception {
        Sentences of = new Sentences();
        of.term(3, "ACTORS 0 to 7", EdgesOfLoopsTest::actorsOfParts);
        of.term(3, "An ACTOR is FREE", EdgesOfLoopsTest::freeDays);
        of.term(3, "LOOPS 0, 1", EdgesOfLoopsTest::minutesOfLoops);
        of.term(3, "ROOM of a DAY", EdgesOfLoopsTest::roomOfDays);
        of.term(3, "A PLAN gives", EdgesOfLoopsTest::aPlan);
        of.term(3, "CALLS:", EdgesOfLoopsTest::calls);
        of.term(3, "THE PLAN:", EdgesOfLoopsTest::thePlan);
        of.endOfTerms(3);
        of.promise(21, "A PART gets an ACTOR (-1: none): whom it had (-1: none, no finding).",
            EdgesOfLoopsTest::actor);
        of.promise(21, "BEYOND.", EdgesOfLoopsTest::actorBeyond);
        of.promise(22, "FREE of an ACTOR becomes a set (0 to 15): what it was.", EdgesOfLoopsTest::free);
        of.promise(22, "BEYOND.", EdgesOfLoopsTest::freeBeyond);
        of.promise(23, "ROOM of a DAY OF WORK becomes v: what it was.", EdgesOfLoopsTest::room);
        of.promise(23, "BEYOND.", EdgesOfLoopsTest::roomBeyond);
        of.promise(24, "A new LOOP: its number.", EdgesOfLoopsTest::loop);
        of.promise(24, "BEYOND: the set has a bit of none.", EdgesOfLoopsTest::loopBeyond);
        of.promise(24, "SIZE: it is empty.", EdgesOfLoopsTest::loopSize);
        of.promise(24, "FULL: there are 7.", EdgesOfLoopsTest::loopFull);
        of.order(24, EdgesOfLoopsTest::loopOrder);
        of.promise(25, "The latest LOOP goes: how many there are.", EdgesOfLoopsTest::unloop);
        of.promise(25, "NONE.", EdgesOfLoopsTest::unloopNone);
        of.promise(26, "CALLS of THE PLAN (0 without LOOPS).", EdgesOfLoopsTest::plan);
        of.promise(26, "NONE: there is no PLAN.", EdgesOfLoopsTest::planNone);
        of.promise(27, "The DAY OF WORK that THE PLAN gives a LOOP.", EdgesOfLoopsTest::planned);
        of.promise(27, "BEYOND.", EdgesOfLoopsTest::plannedBeyond);
        of.promise(27, "NONE.", EdgesOfLoopsTest::plannedNone);
        of.order(27, EdgesOfLoopsTest::plannedOrder);
        of.promise(28, "How many PLANS have as few CALLS (0 when there is none, 1 without LOOPS).",
            EdgesOfLoopsTest::plans);
        of.endOfPromises(21, 28);
        Check.end();
    }

    /** Lines of parts 0, 1, .. and these loops. */
    private static DubDesk looped(int lines, int... loops) {
        DubDesk x = Desks.lines(lines).make();
        for (int set : loops) {
            x.loop(set);
        }
        return x;
    }

    private static DubDesk withRooms(DubDesk x, int... rooms) {
        for (int day = 0; day < rooms.length; day++) {
            x.room(day, rooms[day]);
        }
        return x;
    }

    private static void duePlan(String what, DubDesk x, int calls, int plans, int... days) {
        Check.due(what + ": calls", x.plan(), calls);
        Check.due(what + ": plans", x.plans(), plans);
        for (int loop = 0; loop < days.length; loop++) {
            Check.due(what + ": day of " + loop, x.planned(loop), days[loop]);
        }
    }

    private static void actorsOfParts() {
        for (int part = 0; part < 6; part++) {
            for (int actor = 0; actor < 8; actor++) {
                DubDesk x = looped(6, 1 << part);
                duePlan("none at first", x, 0, 4, 0);
                Check.due("none at first", x.actor(part, actor), -1);
                duePlan("one", x, 1, 4, 0);
                x.free(actor, 8);
                duePlan("just this one", x, 1, 1, 3);
            }
        }
    }

    private static void freeDays() {
        for (int set = 0; set <= 15; set++) {
            DubDesk x = looped(1, 1);
            x.actor(0, 7);
            duePlan("all at first", x, 1, 4, 0);
            Check.due("all at first", x.free(7, set), 15);
            if (set == 0) {
                duePlan("never", x, Check.NONE, 0, Check.NONE);
            } else {
                duePlan("set " + set, x, 1, Integer.bitCount(set), Integer.numberOfTrailingZeros(set));
            }
        }
    }

    private static void minutesOfLoops() {
        for (int count = 1; count <= 12; count++) {
            DubDesk x = looped(12, (1 << count) - 1);
            duePlan("just so much", withRooms(x, 0, 0, 0, 5 * count), 0, 1, 3);
            duePlan("a minute less", withRooms(x, 0, 0, 0, 5 * count - 1), Check.NONE, 0, Check.NONE);
            duePlan("lines at the end", withRooms(looped(12, ALL_LINES & ~((1 << 12 - count) - 1)), 0, 0, 5 * count, 0),
                0, 1, 2);
        }
        DubDesk x = looped(1, 1, 1, 1, 1, 1, 1);
        Check.due("the seventh", x.loop(1), 6);
        Check.due("one more", x.loop(1), Check.FULL);
    }

    private static void roomOfDays() {
        duePlan("60 at first", looped(12, ALL_LINES), 0, 4, 0);
        duePlan("not 65", looped(12, ALL_LINES, 1), 0, 12, 0, 1);
        duePlan("60 on each day", looped(12, ALL_LINES, ALL_LINES, ALL_LINES, ALL_LINES), 0, 24, 0, 1, 2, 3);
        duePlan("not five of them", looped(12, ALL_LINES, ALL_LINES, ALL_LINES, ALL_LINES, 1), Check.NONE, 0);
        duePlan("100 in 100", withRooms(looped(12, ALL_LINES, 255), 100, 0, 0, 0), 0, 1, 0, 0);
        duePlan("105 in 100", withRooms(looped(12, ALL_LINES, 511), 100, 0, 0, 0), Check.NONE, 0);
        duePlan("5 in 0", withRooms(looped(1, 1), 0, 0, 0, 0), Check.NONE, 0);
        Edges.range("room", Desks.SOME, 0, 100, (x, v) -> x.room(0, v));
    }

    private static void aPlan() {
        DubDesk x = looped(3, 7);
        x.actor(0, 0);
        x.actor(1, 1);
        x.free(0, 1 | 2);
        x.free(1, 2 | 4);
        duePlan("both are free on one day; part 2 has none", x, 2, 1, 1);
        x.free(1, 4 | 8);
        duePlan("on no day both", x, Check.NONE, 0, Check.NONE);
        x.actor(1, -1);
        duePlan("only the one that there is", x, 1, 2, 0);
        x.actor(2, 1);
        duePlan("the other of another part", x, Check.NONE, 0, Check.NONE);
        duePlan("together just its room", withRooms(looped(1, 1, 1), 10, 0, 0, 0), 0, 1, 0, 0);
        duePlan("together a minute above", withRooms(looped(1, 1, 1), 9, 0, 0, 0), Check.NONE, 0);
        duePlan("each on its own day", withRooms(looped(1, 1, 1), 9, 0, 0, 9), 0, 2, 0, 3);
        duePlan("one line in both", withRooms(looped(2, 3, 3), 10, 0, 10, 0), 0, 2, 0, 2);
    }

    private static void calls() {
        DubDesk x = looped(7, 1, 1 << 6, 2);
        x.actor(0, 5);
        duePlan("lines of one part on one day", x, 1, 16, 0, 0, 0);
        x.actor(1, 5);
        duePlan("an actor of two parts", x, 1, 4, 0, 0, 0);
        x.actor(1, 6);
        duePlan("two actors", x, 2, 16, 0, 0, 0);
        duePlan("on two days: added", withRooms(x, 5, 10, 0, 0), 2, 1, 1, 1, 0);
        duePlan("on three days: added", withRooms(x, 5, 5, 5, 0), 3, 6, 0, 1, 2);
        DubDesk most = looped(6, 63, 63, 63, 63);
        for (int part = 0; part < 6; part++) {
            most.actor(part, 7 - part);
        }
        duePlan("three on one day", withRooms(most, 100, 100, 100, 100), 12, 84, 0, 0, 0, 1);
        duePlan("all on all days", withRooms(most, 30, 30, 30, 30), 24, 24, 0, 1, 2, 3);
    }

    private static void thePlan() {
        DubDesk x = looped(1, 1, 1);
        x.actor(0, 0);
        duePlan("fewest calls ahead of the first", withRooms(x, 5), 1, 3, 1, 1);
        duePlan("the first of them", withRooms(x, 10), 1, 4, 0, 0);
        DubDesk y = looped(2, 1, 2, 1);
        duePlan("loop by loop", withRooms(y, 10, 5), 0, 53, 0, 0, 1);
        duePlan("loop by loop", withRooms(y, 5, 5, 5, 0), 0, 6, 0, 1, 2);
        y.actor(0, 3);
        y.free(3, 6);
        duePlan("the first that can be", withRooms(y, 5, 10, 5, 0), 1, 2, 1, 0, 1);
    }

    private static void actor() {
        DubDesk x = new DubDesk();
        Check.due("none", x.actor(0, 0), -1);
        Check.due("actor 0", x.actor(0, 7), 0);
        Check.due("actor 7", x.actor(0, 7), 7);
        Check.due("actor 7 still", x.actor(0, -1), 7);
        Check.due("none", x.actor(0, -1), -1);
        Check.due("the last part", x.actor(5, 3), -1);
        Check.due("no finding", x.all(4), 0);
        Check.due("the same actor of another part", x.actor(4, 3), -1);
        Check.due("stays with both", x.actor(5, -1), 3);
    }

    private static void actorBeyond() {
        Edges.range("actor of part", Desks.BARE, 0, 5, (x, v) -> x.actor(v, 0));
        Edges.range("actor of part", Desks.SOME, 0, 5, (x, v) -> x.actor(v, -1));
        Edges.range("actor", Desks.BARE, -1, 7, (x, v) -> x.actor(0, v));
        Edges.range("actor", Desks.SOME, -1, 7, (x, v) -> x.actor(5, v));
    }

    private static void free() {
        DubDesk x = new DubDesk();
        Check.due("all", x.free(0, 0), 15);
        Check.due("never", x.free(0, 15), 0);
        Check.due("all again", x.free(0, 9), 15);
        Check.due("some", x.free(0, 9), 9);
        Check.due("the last actor", x.free(7, 1), 15);
    }

    private static void freeBeyond() {
        Edges.range("free of actor", Desks.BARE, 0, 7, (x, v) -> x.free(v, 0));
        Edges.range("free of actor", Desks.SOME, 0, 7, (x, v) -> x.free(v, 15));
        Edges.range("free set", Desks.BARE, 0, 15, (x, v) -> x.free(0, v));
        Edges.range("free set", Desks.SOME, 0, 15, (x, v) -> x.free(7, v));
    }

    private static void room() {
        DubDesk x = new DubDesk();
        for (int day = 0; day < 4; day++) {
            Check.due("at first", x.room(day, 100), 60);
            Check.due("the most", x.room(day, 0), 100);
            Check.due("the least", x.room(day, day), 0);
        }
        for (int day = 0; day < 4; day++) {
            Check.due("each its own", x.room(day, 60), day);
        }
    }

    private static void roomBeyond() {
        Edges.range("room of day", Desks.BARE, 0, 3, (x, v) -> x.room(v, 0));
        Edges.range("room of day", Desks.SOME, 0, 3, (x, v) -> x.room(v, 100));
        Edges.range("room", Desks.BARE, 0, 100, (x, v) -> x.room(3, v));
    }

    private static void loop() {
        DubDesk x = Desks.lines(2).make();
        Check.due("the first", x.loop(1), 0);
        Check.due("the second", x.loop(3), 1);
        Check.due("the same again", x.loop(3), 2);
        x.unloop();
        Check.due("the third again", x.loop(2), 2);
    }

    private static void loopBeyond() {
        Edges.beyond("without lines", Desks.BARE, x -> x.loop(1));
        for (int bit = 3; bit < 32; bit++) {
            int only = 1 << bit;
            Edges.beyond("bit " + bit, Desks.SOME, x -> x.loop(only));
            Edges.beyond("bit " + bit + " and lines", Desks.lines(3), x -> x.loop(only | 7));
        }
        Check.due("all of three lines", Desks.SOME.make().loop(7), 2);
        Check.due("the last of three", Desks.SOME.make().loop(4), 2);
        Check.due("all of twelve", Desks.lines(12).make().loop(ALL_LINES), 0);
        Edges.beyond("bit 12 of twelve", Desks.lines(12), x -> x.loop(1 << 12));
        Edges.beyond("all bits", Desks.lines(12), x -> x.loop(-1));
    }

    private static void loopSize() {
        Edges.refused("without lines", Desks.BARE, x -> x.loop(0), Check.SIZE);
        Edges.refused("with lines", Desks.SOME, x -> x.loop(0), Check.SIZE);
        Check.due("one line", Desks.SOME.make().loop(1), 2);
    }

    private static void loopFull() {
        DubDesk x = looped(1, 1, 1, 1, 1, 1, 1);
        Check.due("the seventh", x.loop(1), 6);
        Check.due("one more", x.loop(1), Check.FULL);
        Check.due("seven", x.all(3), 7);
        x.unloop();
        Check.due("one less: the seventh again", x.loop(1), 6);
        Edges.refused("one more", Desks.FULL, y -> y.loop(1), Check.FULL);
        Edges.refused("one more", Desks.FULL, y -> y.loop(ALL_LINES), Check.FULL);
    }

    private static void loopOrder() {
        Edges.beyond("a bit of none, and 7", Desks.FULL, x -> x.loop(1 << 12));
        Edges.beyond("a bit of none, and 7", Desks.FULL, x -> x.loop(-1));
        Edges.refused("empty, and 7", Desks.FULL, x -> x.loop(0), Check.SIZE);
    }

    private static void unloop() {
        DubDesk x = looped(2, 1, 2);
        x.actor(0, 0);
        x.actor(1, 1);
        x.free(0, 4);
        x.free(1, 8);
        duePlan("both", x, 2, 1, 2, 3);
        Check.due("one stays", x.unloop(), 1);
        duePlan("the latest went", x, 1, 1, 2, Check.BEYOND);
        Check.due("none stays", x.unloop(), 0);
        duePlan("none", x, 0, 1, Check.BEYOND);
        Check.due("six of seven", Desks.FULL.make().unloop(), 6);
    }

    private static void unloopNone() {
        Edges.refused("there never was one", Desks.BARE, DubDesk::unloop, Check.NONE);
        Edges.refused("with lines", Desks.lines(12), DubDesk::unloop, Check.NONE);
        Desks.Maker gone = () -> {
            DubDesk x = looped(1, 1);
            x.unloop();
            return x;
        };
        Edges.refused("the last one went", gone, DubDesk::unloop, Check.NONE);
    }

    private static void plan() {
        Check.due("a new desk", new DubDesk().plan(), 0);
        Check.due("lines, actors, no room", withRooms(looped(12), 0, 0, 0, 0).plan(), 0);
        DubDesk x = looped(6, 63);
        for (int part = 0; part < 6; part++) {
            Check.due("so many", x.plan(), part);
            x.actor(part, part);
        }
        Check.due("all six", x.plan(), 6);
        Check.due("no finding", x.all(4), 0);
        Edges.unchanged("plan", Desks.SOME, DubDesk::plan);
    }

    private static void planNone() {
        Edges.refused("an actor is never free", Desks.UNPLANNED, DubDesk::plan, Check.NONE);
        Desks.Maker narrow = () -> withRooms(looped(2, 3), 9, 9, 9, 9);
        Edges.refused("a minute is missing", narrow, DubDesk::plan, Check.NONE);
        DubDesk x = narrow.make();
        x.room(2, 10);
        Check.due("it is not", x.plan(), 0);
        x.undo();
        Check.due("it is again", x.plan(), Check.NONE);
        x.unloop();
        Check.due("without loops", x.plan(), 0);
    }

    private static void planned() {
        for (int day = 0; day < 4; day++) {
            DubDesk x = looped(1, 1);
            x.actor(0, 0);
            x.free(0, 1 << day);
            Check.due("the only day", x.planned(0), day);
        }
        DubDesk x = looped(1, 1, 1, 1, 1, 1, 1, 1);
        withRooms(x, 10, 10, 10, 5);
        int[] due = {0, 0, 1, 1, 2, 2, 3};
        for (int loop = 0; loop < 7; loop++) {
            Check.due("planned(" + loop + ")", x.planned(loop), due[loop]);
        }
        Edges.unchanged("planned", Desks.SOME, y -> y.planned(0));
    }

    private static void plannedBeyond() {
        Edges.beyond("without loops", Desks.BARE, x -> x.planned(0));
        Edges.range("planned of 7", Desks.FULL, 0, 6, DubDesk::planned);
        Edges.range("planned of 2", Desks.SOME, 0, 1, DubDesk::planned);
    }

    private static void plannedNone() {
        Edges.refused("the first", Desks.UNPLANNED, x -> x.planned(0), Check.NONE);
        Edges.refused("the last", Desks.UNPLANNED, x -> x.planned(1), Check.NONE);
        DubDesk x = Desks.UNPLANNED.make();
        x.unloop();
        Check.due("without the one that can not be", x.planned(0), 0);
    }

    private static void plannedOrder() {
        Edges.beyond("no such loop, and no plan", Desks.UNPLANNED, x -> x.planned(2));
        Edges.beyond("no such loop, and no plan", Desks.UNPLANNED, x -> x.planned(-1));
    }

    private static void plans() {
        Check.due("a new desk", new DubDesk().plans(), 1);
        Check.due("without loops, no room", withRooms(looped(12), 0, 0, 0, 0).plans(), 1);
        DubDesk none = Desks.UNPLANNED.make();
        Check.due("there is none", none.plans(), 0);
        Check.due("no finding", none.all(4), 0);
        Check.due("as many as can be", looped(1, 1, 1, 1, 1, 1, 1, 1).plans(), 1 << 14);
        DubDesk x = looped(1, 1, 1);
        x.actor(0, 0);
        Check.due("not those with more calls", x.plans(), 4);
        Edges.unchanged("plans", Desks.SOME, DubDesk::plans);
        Edges.unchanged("plans", Desks.UNPLANNED, DubDesk::plans);
    }
}
