/** Promises 21 to 28: actors, the days they are free, rooms, loops and plans. */
public final class LoopsTest {
    public static void main(String[] args) {
        actors();
        freeDays();
        rooms();
        loops();
        unloops();
        withoutLoops();
        minutesAndRoom();
        fewestCalls();
        partsWithoutActors();
        oneActorOfTwoParts();
        firstPlan();
        fewerCallsLater();
        everyChangeCounts();
        sevenLoops();
        Check.end();
    }

    private static void actors() {
        DubDesk x = new DubDesk();
        Check.due("actor", x.actor(5, 7), -1);
        Check.due("another", x.actor(5, 0), 7);
        Check.due("none", x.actor(5, -1), 0);
        Check.due("part -1", x.actor(-1, 0), Check.BEYOND);
        Check.due("part 6", x.actor(6, 0), Check.BEYOND);
        Check.due("actor -2", x.actor(0, -2), Check.BEYOND);
        Check.due("actor 8", x.actor(0, 8), Check.BEYOND);
        Check.due("nothing came", x.actor(0, -1), -1);
        Check.due("findings", x.all(4), 4);
    }

    private static void freeDays() {
        DubDesk x = new DubDesk();
        Check.due("free", x.free(7, 0), 15);
        Check.due("again", x.free(7, 9), 0);
        Check.due("another actor", x.free(6, 15), 15);
        Check.due("actor -1", x.free(-1, 0), Check.BEYOND);
        Check.due("actor 8", x.free(8, 0), Check.BEYOND);
        Check.due("set -1", x.free(7, -1), Check.BEYOND);
        Check.due("set 16", x.free(7, 16), Check.BEYOND);
        Check.due("as it was", x.free(7, 15), 9);
    }

    private static void rooms() {
        DubDesk x = new DubDesk();
        Check.due("room", x.room(3, 100), 60);
        Check.due("again", x.room(3, 0), 100);
        Check.due("day -1", x.room(-1, 0), Check.BEYOND);
        Check.due("day 4", x.room(4, 0), Check.BEYOND);
        Check.due("v -1", x.room(3, -1), Check.BEYOND);
        Check.due("v 101", x.room(3, 101), Check.BEYOND);
        Check.due("as it was", x.room(3, 1), 0);
    }

    private static void loops() {
        DubDesk x = new DubDesk();
        Check.due("no lines", x.loop(1), Check.BEYOND);
        Check.due("empty", x.loop(0), Check.SIZE);
        Check.addLines(x, 12);
        Check.due("bit 12", x.loop(1 << 12), Check.BEYOND);
        Check.due("bit 12 among others", x.loop((1 << 13) - 1), Check.BEYOND);
        Check.due("bit 31", x.loop(Integer.MIN_VALUE), Check.BEYOND);
        Check.due("bit 31 and 0", x.loop(Integer.MIN_VALUE + 1), Check.BEYOND);
        Check.due("all bits", x.loop(-1), Check.BEYOND);
        for (int i = 0; i < 7; i++) {
            Check.due("loop", x.loop((1 << 12) - 1), i);
        }
        Check.due("loop 7", x.loop(1), Check.FULL);
        Check.due("SIZE ahead of FULL", x.loop(0), Check.SIZE);
        Check.due("BEYOND ahead of FULL", x.loop(1 << 12), Check.BEYOND);
        Check.due("loops", x.all(3), 7);
    }

    private static void unloops() {
        DubDesk x = new DubDesk();
        Check.addLines(x, 2);
        x.loop(1);
        x.loop(2);
        x.actor(1, 4);
        Check.due("one call", x.plan(), 1);
        Check.due("unloop", x.unloop(), 1);
        Check.due("the latest went", x.plan(), 0);
        Check.due("planned of it", x.planned(1), Check.BEYOND);
        Check.due("unloop", x.unloop(), 0);
        Check.due("unloop of none", x.unloop(), Check.NONE);
        Check.due("loops", x.all(3), 0);
    }

    private static void withoutLoops() {
        DubDesk x = new DubDesk();
        Check.due("plan", x.plan(), 0);
        Check.due("plans", x.plans(), 1);
        Check.due("planned", x.planned(0), Check.BEYOND);
        for (int day = 0; day < 4; day++) {
            x.room(day, 0);
        }
        Check.due("without room, too", x.plan(), 0);
        Check.due("one plan", x.plans(), 1);
    }

    private static void minutesAndRoom() {
        DubDesk x = new DubDesk();
        Check.addLines(x, 3);
        for (int day = 0; day < 4; day++) {
            x.room(day, 14);
        }
        x.loop(7);
        Check.due("15 in 14", x.plan(), Check.NONE);
        Check.due("no plans", x.plans(), 0);
        Check.due("no day", x.planned(0), Check.NONE);
        Check.due("plans is no finding", x.all(4), 2);
        Check.due("BEYOND ahead of NONE", x.planned(1), Check.BEYOND);
        Check.due("loop -1", x.planned(-1), Check.BEYOND);
        x.room(3, 15);
        Check.due("15 in 15", x.plan(), 0);
        Check.due("on day 3", x.planned(0), 3);
        x.loop(1);
        Check.due("the second elsewhere", x.planned(1), 0);
        Check.due("plans", x.plans(), 3);
        x.room(3, 20);
        Check.due("both on day 3, too", x.plans(), 4);
    }

    private static void fewestCalls() {
        DubDesk x = new DubDesk();
        Check.addLines(x, 3);
        for (int part = 0; part < 3; part++) {
            x.actor(part, part);
        }
        x.loop(3);
        x.loop(6);
        x.loop(5);
        Check.due("three actors once", x.plan(), 3);
        Check.due("plans", x.plans(), 4);
        for (int day = 0; day < 4; day++) {
            x.room(day, 20);
        }
        Check.due("two days", x.plan(), 5);
        Check.due("first", x.planned(0), 0);
        Check.due("second", x.planned(1), 0);
        Check.due("third", x.planned(2), 1);
        Check.due("plans", x.plans(), 3 * 4 * 3);
        x.free(1, 1);
        Check.due("the second actor on day 0", x.plan(), 5);
        Check.due("plans", x.plans(), 3);
        x.room(0, 19);
        Check.due("no room for both", x.plan(), Check.NONE);
    }

    private static void partsWithoutActors() {
        DubDesk x = new DubDesk();
        Check.addLines(x, 2);
        x.free(0, 0);
        x.loop(3);
        Check.due("nobody is called", x.plan(), 0);
        x.actor(1, 0);
        Check.due("never free", x.plan(), Check.NONE);
        x.free(0, 8);
        Check.due("free on day 3", x.planned(0), 3);
        Check.due("one call", x.plan(), 1);
        x.actor(1, -1);
        Check.due("nobody again", x.planned(0), 0);
    }

    private static void oneActorOfTwoParts() {
        DubDesk x = new DubDesk();
        Check.addLines(x, 8);
        x.actor(0, 7);
        x.actor(1, 7);
        x.loop(3);
        Check.due("called once a day", x.plan(), 1);
        x.loop(1 << 6);
        Check.due("lines of one part", x.plan(), 1);
        x.room(0, 10);
        x.room(1, 0);
        x.room(2, 0);
        x.room(3, 5);
        Check.due("called on both days", x.plan(), 2);
        Check.due("first day", x.planned(0), 0);
        Check.due("second day", x.planned(1), 3);
    }

    private static void firstPlan() {
        DubDesk x = new DubDesk();
        Check.addLines(x, 2);
        x.actor(0, 0);
        x.actor(1, 1);
        x.free(0, 14);
        x.loop(1);
        x.loop(2);
        x.loop(1);
        Check.due("calls", x.plan(), 2);
        Check.due("loop 0", x.planned(0), 1);
        Check.due("loop 1", x.planned(1), 0);
        Check.due("loop 2", x.planned(2), 1);
        Check.due("plans", x.plans(), 12);
    }

    private static void fewerCallsLater() {
        DubDesk x = new DubDesk();
        Check.addLines(x, 1);
        x.actor(0, 0);
        x.room(0, 5);
        x.loop(1);
        x.loop(1);
        Check.due("both on one day", x.plan(), 1);
        Check.due("not those of two days", x.plans(), 3);
        Check.due("not day 0", x.planned(0), 1);
        Check.due("nor the other", x.planned(1), 1);
        x.room(0, 10);
        Check.due("both on day 0", x.planned(0), 0);
        x.room(0, 0);
        x.room(1, 5);
        x.room(2, 5);
        x.room(3, 5);
        Check.due("on two days", x.plan(), 2);
        Check.due("six ways", x.plans(), 6);
    }

    /** What a plan rests on is asked anew after each act and after each undo. */
    private static void everyChangeCounts() {
        DubDesk x = new DubDesk();
        Check.addLines(x, 1);
        Check.due("no loop", x.plans(), 1);
        x.loop(1);
        Check.due("a loop", x.plans(), 4);
        x.room(0, 4);
        Check.due("a room", x.plans(), 3);
        x.actor(0, 2);
        Check.due("an actor", x.plan(), 1);
        x.free(2, 3);
        Check.due("free days", x.plans(), 1);
        x.undo();
        Check.due("free undone", x.plans(), 3);
        x.undo();
        Check.due("actor undone", x.plan(), 0);
        x.undo();
        Check.due("room undone", x.plans(), 4);
        x.unloop();
        Check.due("unloop", x.plans(), 1);
        x.undo();
        Check.due("unloop undone", x.plans(), 4);
        x.undo();
        Check.due("loop undone", x.plans(), 1);
    }

    private static void sevenLoops() {
        DubDesk x = new DubDesk();
        Check.addLines(x, 12);
        for (int i = 0; i < 7; i++) {
            x.loop(1 << i);
        }
        Check.due("all plans", x.plans(), 1 << 14);
        for (int part = 0; part < 6; part++) {
            x.actor(part, part);
        }
        Check.due("six actors", x.plan(), 6);
        Check.due("loop 6 with loop 0", x.plans(), 1 << 12);
        for (int day = 0; day < 4; day++) {
            x.room(day, 10);
        }
        Check.due("two loops a day at most", x.plan(), 6);
        x.room(0, 5);
        Check.due("loops 0 and 6 on day 1", x.planned(6), 1);
        Check.due("loop 1 on day 0", x.planned(1), 0);
        x.room(1, 5);
        x.room(2, 5);
        Check.due("five loops at most", x.plan(), Check.NONE);
    }
}
