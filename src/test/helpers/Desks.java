import java.util.HashMap;
import java.util.Map;

/** Desks in known states, made anew as often as one asks. The largest takes some 210 of its 512 calls. */
final class Desks {
    interface Maker {
        DubDesk make();
    }

    static final Maker BARE = DubDesk::new;
    static final Maker FEW = Desks::few;
    static final Maker SOME = Desks::some;
    static final Maker UNPLANNED = Desks::unplanned;
    static final Maker FULL = Desks::full;

    /** The acts of FEW: fewer than the 20 that can be undone. */
    static final int FEW_ACTS = 16;

    private Desks() {
    }

    private static final Map<Integer, Maker> OF_LINES = new HashMap<>();

    /** The same maker for the same count: the watch keeps what it saw by the maker. */
    static Maker lines(int count) {
        return OF_LINES.computeIfAbsent(count, c -> () -> {
            DubDesk x = new DubDesk();
            Check.addLines(x, c);
            return x;
        });
    }

    private static DubDesk few() {
        DubDesk x = Check.deskWithLine(1, 0, 2);
        Check.addLine(x, 3);
        x.wording(0, 0, 70);
        x.wording(0, 1, 60);
        x.syllable(0, 1, 1, 2, 6);
        x.syllable(0, 2, 1, 3, 7);
        x.name(6, 2);
        x.text(0, 0, 7, 500);
        x.actor(0, 1);
        x.actor(3, 2);
        x.free(1, 12);
        x.room(2, 4);
        x.loop(1);
        fillSheets(x);
        return x;
    }

    /** Lines 0 to 2, the last without frames; wordings 0 to 3: 1 and 3 without syllables, 2 without a fit. */
    private static DubDesk some() {
        DubDesk x = Check.deskWithLine(1, 2, 0, 3);
        Check.addLine(x, 5, 2, 2);
        Check.addLine(x, 1);
        x.wording(0, 0, 50);
        x.wording(0, 3, 40);
        x.wording(1, 0, 10);
        x.wording(2, 2, 0);
        x.syllable(0, 1, 1, 2, 3);
        x.syllable(0, 3, 1, 2, 4);
        for (int i = 0; i < 3; i++) {
            x.syllable(2, 2, 1, 6, 5);
        }
        x.name(3, 1);
        x.name(4, 2);
        x.name(5, 1);
        x.text(0, 0, 4, 100);
        x.text(0, 1, 4, 200);
        x.text(1, 2, 5, 50);
        x.actor(0, 0);
        x.actor(5, 7);
        x.free(0, 6);
        x.room(0, 10);
        x.loop(1);
        x.loop(3);
        fillSheets(x);
        return x;
    }

    /** Sheet 0 has 3 numbers of 8 bits, 1 has 25 of 16, 2 has 5 of 8, 3 is MISSING. */
    private static void fillSheets(DubDesk x) {
        fill(x, 0, 8, 1, 2, 3);
        x.sheet(1, 16, 25);
        x.put(1, 24, 3);
        fill(x, 2, 8, 0, 3, 0, 1, 2);
    }

    static void fill(DubDesk x, int s, int bits, int... numbers) {
        x.sheet(s, bits, numbers.length);
        for (int i = 0; i < numbers.length; i++) {
            x.put(s, i, numbers[i]);
        }
    }

    /** Three lines and two loops, the second of an actor who is never free. */
    private static DubDesk unplanned() {
        DubDesk x = new DubDesk();
        Check.addLines(x, 3);
        x.actor(1, 4);
        x.free(4, 0);
        x.loop(1);
        x.loop(2);
        return x;
    }

    /** As many as can be: 12 lines (24 frames on line 0, 23 on line 11), 20 wordings (8 syllables on 0 and 19), .. */
    private static DubDesk full() {
        DubDesk x = new DubDesk();
        Check.addLines(x, 12);
        for (int i = 0; i < 24; i++) {
            x.frame(0, i % 4);
        }
        for (int i = 0; i < 23; i++) {
            x.frame(11, (i + 1) % 4);
        }
        for (int i = 0; i < 20; i++) {
            x.wording(i < 10 ? 0 : 11, i % 4, 5 * i);
        }
        for (int i = 0; i < 8; i++) {
            x.syllable(0, i % 4, 1, 6, i);
            x.syllable(19, i % 3, 1, 2, 31 - i);
        }
        for (int i = 0; i < 40; i++) {
            x.text(i % 3, i / 3 % 3, i % 32, 25 * i);
        }
        for (int i = 0; i < 7; i++) {
            x.actor(i % 6, i);
            x.loop(1 << i);
        }
        x.name(0, 0);
        x.name(31, 7);
        x.sheet(0, 8, 30);
        x.put(0, 29, 1);
        x.sheet(1, 16, 24);
        x.put(1, 23, 2);
        x.sheet(2, 32, 30);
        x.put(2, 0, 3);
        x.sheet(3, 8, 30);
        return x;
    }
}
