import java.util.List;

/** Asks for what is refused, and for the last values that are not. */
final class Edges {
    interface CallOf {
        int ask(DubDesk x, int v);
    }

    private static final int LEAST_FINDING = -99999;

    private Edges() {
    }

    /** The call answers the finding, it is counted, and the desk is as it was. */
    static void refused(String call, Desks.Maker maker, Watch.Call asked, int finding) {
        DubDesk x = maker.make();
        int before = x.all(4);
        Check.due(call, asked.ask(x), finding);
        Check.due(call + " is counted", x.all(4), before + 1);
        unchanged(call, maker, asked);
    }

    static void beyond(String call, Desks.Maker maker, Watch.Call asked) {
        refused(call, maker, asked, Check.BEYOND);
    }

    /** From least to most the call is taken; the next on both sides, and the farthest, are BEYOND. */
    static void range(String call, Desks.Maker maker, int least, int most, CallOf asked) {
        taken(call, maker, least, asked);
        taken(call, maker, most, asked);
        for (int v : new int[] {least - 1, most + 1, Integer.MIN_VALUE, Integer.MAX_VALUE}) {
            beyond(call + " with " + v, maker, x -> asked.ask(x, v));
        }
    }

    private static void taken(String call, Desks.Maker maker, int v, CallOf asked) {
        DubDesk x = maker.make();
        int before = x.all(4);
        int answer = asked.ask(x, v);
        Check.due(call + " with " + v + " is taken, but answered " + answer, answer < LEAST_FINDING ? 1 : 0, 0);
        Check.due(call + " with " + v + " is not counted", x.all(4), before);
    }

    /** After the call the desk tells what it told without it. */
    static void unchanged(String call, Desks.Maker maker, Watch.Call asked) {
        Check.due(call + " changes nothing", firstOther(maker, asked), -1);
    }

    static void changed(String call, Desks.Maker maker, Watch.Call asked) {
        Check.due(call + " changes something", firstOther(maker, asked) < 0 ? 0 : 1, 1);
    }

    /** Which part of the watch tells something else after the call, or -1. */
    private static int firstOther(Desks.Maker maker, Watch.Call asked) {
        List<List<Integer>> without = Watch.untouched(maker);
        List<List<Integer>> with = Watch.after(maker, asked);
        for (int i = 0; i < without.size(); i++) {
            if (!without.get(i).equals(with.get(i))) {
                return i;
            }
        }
        return -1;
    }
}
