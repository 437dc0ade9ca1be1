import java.util.ArrayList;
import java.util.HashMap;
import java.util.List;
import java.util.Map;

/** Asks a desk for all that it can tell, but for how many findings it answered; each part of a desk made anew. */
final class Watch {
    private interface Part {
        void ask(DubDesk x, List<Integer> seen);
    }

    interface Call {
        int ask(DubDesk x);
    }

    private static final int[] DAYS = {0, 100, 999};

    private static final Part[] PARTS = {
        Watch::counts,
        Watch::shapes,
        (x, seen) -> fits(x, 0, 10, seen),
        (x, seen) -> fits(x, 10, 20, seen),
        (x, seen) -> frames(x, 0, 10, seen),
        (x, seen) -> frames(x, 10, 20, seen),
        Watch::barredWords,
        Watch::laws,
        Watch::planning,
        Watch::kept,
        (x, seen) -> sheet(x, 0, seen),
        (x, seen) -> sheet(x, 1, seen),
        (x, seen) -> sheet(x, 2, seen),
        (x, seen) -> sheet(x, 3, seen),
        Watch::undoneStepByStep,
        Watch::undoneThenPlanning,
        Watch::undoneThenShapes,
    };

    private static final Map<Desks.Maker, List<List<Integer>>> KNOWN = new HashMap<>();

    private Watch() {
    }

    /** What a desk of this maker tells, kept for the next time. */
    static List<List<Integer>> untouched(Desks.Maker maker) {
        return KNOWN.computeIfAbsent(maker, m -> after(m, x -> 0));
    }

    /** What a desk of this maker tells after the call. */
    static List<List<Integer>> after(Desks.Maker maker, Call call) {
        List<List<Integer>> all = new ArrayList<>();
        for (Part part : PARTS) {
            DubDesk x = maker.make();
            call.ask(x);
            List<Integer> seen = new ArrayList<>();
            part.ask(x, seen);
            all.add(seen);
        }
        return all;
    }

    private static void counts(DubDesk x, List<Integer> seen) {
        for (int what = 0; what < 4; what++) {
            seen.add(x.all(what));
        }
        for (int line = 0; line < 12; line++) {
            for (int what = 0; what < 3; what++) {
                seen.add(x.told(line, what));
            }
        }
        for (int wording = 0; wording < 20; wording++) {
            for (int what = 0; what < 4; what++) {
                seen.add(x.of(wording, what));
            }
        }
    }

    private static void shapes(DubDesk x, List<Integer> seen) {
        for (int line = 0; line < 12; line++) {
            for (int i = 0; i < 24; i++) {
                seen.add(x.shape(line, i));
            }
        }
    }

    private static void fits(DubDesk x, int from, int to, List<Integer> seen) {
        for (int wording = from; wording < to; wording++) {
            seen.add(x.cost(wording));
            for (int i = 0; i < 8; i++) {
                seen.add(x.place(wording, i, false));
                seen.add(x.place(wording, i, true));
            }
        }
    }

    private static void frames(DubDesk x, int from, int to, List<Integer> seen) {
        for (int wording = from; wording < to; wording++) {
            for (int i = 0; i < 24; i++) {
                seen.add(x.on(wording, i));
            }
        }
    }

    private static void barredWords(DubDesk x, List<Integer> seen) {
        for (int land = 0; land < 3; land++) {
            for (int word = 0; word < 32; word++) {
                for (int day : DAYS) {
                    seen.add(x.barred(land, word, day));
                }
            }
        }
    }

    private static void laws(DubDesk x, List<Integer> seen) {
        for (int land = 0; land < 3; land++) {
            for (int name = 0; name < 8; name++) {
                for (int day : DAYS) {
                    seen.add(x.chosen(land, name, day));
                }
            }
            for (int wording = 0; wording < 20; wording++) {
                seen.add(x.lawful(wording, land, 999));
            }
            for (int line = 0; line < 12; line++) {
                seen.add(x.best(line, land, 999));
            }
            seen.add(x.worth(land, 0));
            seen.add(x.worth(land, 999));
        }
    }

    private static void planning(DubDesk x, List<Integer> seen) {
        seen.add(x.plan());
        seen.add(x.plans());
        for (int loop = 0; loop < 7; loop++) {
            seen.add(x.planned(loop));
        }
        for (int word = 0; word < 32; word++) {
            seen.add(x.name(word, -1));
        }
        for (int part = 0; part < 6; part++) {
            seen.add(x.actor(part, -1));
        }
        for (int actor = 0; actor < 8; actor++) {
            seen.add(x.free(actor, 15));
        }
        for (int day = 0; day < 4; day++) {
            seen.add(x.room(day, 60));
        }
    }

    private static void kept(DubDesk x, List<Integer> seen) {
        for (int line = 0; line < 12; line++) {
            for (int other = 0; other < 12; other++) {
                seen.add(x.kept(line, other));
            }
        }
    }

    /** A sheet tells how many numbers it has by put, of how many bits by copy, and which by change of a line. */
    private static void sheet(DubDesk x, int s, List<Integer> seen) {
        int other = (s + 1) % 4;
        x.line(0);
        for (int bits = 8; bits <= 32; bits *= 2) {
            x.sheet(other, bits, 1);
            for (int i = 0; i < 30; i++) {
                int came = x.copy(s, i, other, 0, 1);
                seen.add(came);
                if (came == 1) {
                    seen.add(x.change(0, other));
                    seen.add(x.shape(0, 0));
                }
            }
        }
        for (int i = 0; i < 31; i++) {
            seen.add(x.put(s, i, 0));
        }
    }

    private static void undoneStepByStep(DubDesk x, List<Integer> seen) {
        for (int i = 0; i <= 20; i++) {
            seen.add(x.undo());
            for (int what = 0; what < 4; what++) {
                seen.add(x.all(what));
            }
            seen.add(x.told(0, 1));
            seen.add(x.of(0, 3));
            seen.add(x.plans());
            seen.add(x.worth(0, 999));
        }
    }

    private static void undoneThenPlanning(DubDesk x, List<Integer> seen) {
        for (int i = 0; i < 20; i++) {
            seen.add(x.undo());
        }
        planning(x, seen);
    }

    private static void undoneThenShapes(DubDesk x, List<Integer> seen) {
        for (int i = 0; i < 10; i++) {
            seen.add(x.undo());
        }
        for (int line = 0; line < 12; line++) {
            for (int i = 0; i < 20; i++) {
                seen.add(x.shape(line, i));
            }
        }
    }
}
