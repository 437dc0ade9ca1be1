import java.util.ArrayList;
import java.util.Arrays;
import java.util.List;

/** The document once more, in another way: whole states are kept for undo, and fits and plans are compared whole. */
final class SlowDesk {
    /** What undo brings back. */
    private static final class State {
        List<Integer> parts = new ArrayList<>();
        List<List<Integer>> frames = new ArrayList<>();
        List<int[]> wordings = new ArrayList<>();
        List<List<int[]>> syllables = new ArrayList<>();
        int[] names = new int[32];
        List<int[]> texts = new ArrayList<>();
        int[] actors = new int[6];
        int[] free = new int[8];
        int[] rooms = {60, 60, 60, 60};
        List<Integer> loops = new ArrayList<>();

        State() {
            Arrays.fill(names, -1);
            Arrays.fill(actors, -1);
            Arrays.fill(free, 15);
        }

        State twin() {
            State t = new State();
            t.parts = new ArrayList<>(parts);
            for (List<Integer> f : frames) {
                t.frames.add(new ArrayList<>(f));
            }
            t.wordings = new ArrayList<>(wordings);
            for (List<int[]> s : syllables) {
                t.syllables.add(new ArrayList<>(s));
            }
            t.names = names.clone();
            t.texts = new ArrayList<>(texts);
            t.actors = actors.clone();
            t.free = free.clone();
            t.rooms = rooms.clone();
            t.loops = new ArrayList<>(loops);
            return t;
        }
    }

    private State now = new State();
    private final List<State> earlier = new ArrayList<>();
    private final int[] sheetBits = new int[4];
    private final int[][] sheets = new int[4][0];
    private int findings = 0;

    private static boolean from0(int v, int most) {
        return 0 <= v && v <= most;
    }

    /** Answers the call of this name; -1 is a pause or none. */
    int ask(String call, int[] a) {
        State before = now.twin();
        int answer = answerTo(call, a);
        if (answer < -99999) {
            findings++;
            now = before;
        } else if (isAct(call)) {
            earlier.add(before);
            if (earlier.size() > 20) {
                earlier.remove(0);
            }
        }
        return answer;
    }

    private static boolean isAct(String call) {
        return List.of("line", "frame", "wording", "syllable", "cut", "name", "text", "actor", "free", "room", "loop",
                "unloop", "change").contains(call);
    }

    private int answerTo(String call, int[] a) {
        switch (call) {
            case "line": return line(a[0]);
            case "frame": return frame(a[0], a[1]);
            case "wording": return wording(a[0], a[1], a[2]);
            case "as": return as(a[0], a[1]);
            case "syllable": return syllable(a);
            case "cut": return cut(a[0]);
            case "of": return of(a[0], a[1]);
            case "told": return told(a[0], a[1]);
            case "shape": return shape(a[0], a[1]);
            case "cost": return cost(a[0]);
            case "place": return place(a[0], a[1], a[2] == 1);
            case "on": return on(a[0], a[1]);
            case "name": return name(a[0], a[1]);
            case "text": return text(a);
            case "barred": return barred(a[0], a[1], a[2]);
            case "chosen": return chosen(a[0], a[1], a[2]);
            case "lawful": return lawful(a[0], a[1], a[2]);
            case "best": return best(a[0], a[1], a[2]);
            case "worth": return worth(a[0], a[1]);
            default: return answerToOthers(call, a);
        }
    }

    private int answerToOthers(String call, int[] a) {
        switch (call) {
            case "actor": return exchange(now.actors, a[0], a[1], -1, 7);
            case "free": return exchange(now.free, a[0], a[1], 0, 15);
            case "room": return exchange(now.rooms, a[0], a[1], 0, 100);
            case "loop": return loop(a[0]);
            case "unloop": return unloop();
            case "plan": return plans()[0];
            case "planned": return planned(a[0]);
            case "plans": return plans()[1];
            case "change": return change(a[0], a[1]);
            case "kept": return kept(a[0], a[1]);
            case "sheet": return sheet(a[0], a[1], a[2]);
            case "put": return put(a[0], a[1], a[2]);
            case "copy": return copy(a);
            case "undo": return undo();
            case "all": return all(a[0]);
            default: return 0;
        }
    }

    private boolean noLine(int line) {
        return !from0(line, now.parts.size() - 1);
    }

    private boolean noWording(int wording) {
        return !from0(wording, now.wordings.size() - 1);
    }

    private int line(int part) {
        if (!from0(part, 5)) {
            return Check.BEYOND;
        }
        if (now.parts.size() == 12) {
            return Check.FULL;
        }
        now.parts.add(part);
        now.frames.add(new ArrayList<>());
        return now.parts.size() - 1;
    }

    private int frame(int line, int shape) {
        if (noLine(line) || !from0(shape, 3)) {
            return Check.BEYOND;
        }
        List<Integer> at = now.frames.get(line);
        if (at.size() == 24) {
            return Check.FULL;
        }
        at.add(shape);
        return at.size();
    }

    private int wording(int line, int kind, int sense) {
        if (noLine(line) || !from0(kind, 3) || !from0(sense, 100)) {
            return Check.BEYOND;
        }
        if (now.wordings.size() == 20) {
            return Check.FULL;
        }
        now.wordings.add(new int[] {line, kind, sense});
        now.syllables.add(new ArrayList<>());
        return now.wordings.size() - 1;
    }

    private int as(int wording, int kind) {
        if (noWording(wording) || !from0(kind, 3)) {
            return Check.BEYOND;
        }
        int own = now.wordings.get(wording)[1];
        boolean is = kind == own || kind == 0 || kind == 1 && own == 3;
        return is ? wording : Check.KIND;
    }

    private int syllable(int[] a) {
        if (noWording(a[0]) || !from0(a[1], 3) || !from0(a[2] - 1, 5) || !from0(a[3] - 1, 5) || !from0(a[4], 31)) {
            return Check.BEYOND;
        }
        if (a[2] > a[3]) {
            return Check.SIZE;
        }
        List<int[]> at = now.syllables.get(a[0]);
        if (at.size() == 8) {
            return Check.FULL;
        }
        at.add(new int[] {a[1], a[2], a[3], a[4]});
        return at.size();
    }

    private int cut(int wording) {
        if (noWording(wording)) {
            return Check.BEYOND;
        }
        List<int[]> at = now.syllables.get(wording);
        if (at.isEmpty()) {
            return Check.NONE;
        }
        at.remove(at.size() - 1);
        return at.size();
    }

    private int of(int wording, int what) {
        if (noWording(wording) || !from0(what, 3)) {
            return Check.BEYOND;
        }
        return what == 3 ? now.syllables.get(wording).size() : now.wordings.get(wording)[what];
    }

    private int told(int line, int what) {
        if (noLine(line) || !from0(what, 2)) {
            return Check.BEYOND;
        }
        int own = 0;
        for (int[] w : now.wordings) {
            own += w[0] == line ? 1 : 0;
        }
        return what == 0 ? now.parts.get(line) : what == 1 ? now.frames.get(line).size() : own;
    }

    private int shape(int line, int i) {
        return noLine(line) || !from0(i, now.frames.get(line).size() - 1) ? Check.BEYOND : now.frames.get(line).get(i);
    }

    /** THE FIT as cost, begin, length, begin, length, ..; null if there is none. */
    private int[] fit(int wording) {
        int[] w = now.wordings.get(wording);
        List<Integer> frames = now.frames.get(w[0]);
        List<int[]> syllables = now.syllables.get(wording);
        return fitFrom(w[1], frames, syllables, 0, 0, new int[9][25][]);
    }

    private int[] fitFrom(int kind, List<Integer> frames, List<int[]> syllables, int i, int from, int[][][] seen) {
        if (seen[i][from] != null) {
            return seen[i][from].length == 0 ? null : seen[i][from];
        }
        int[] found = null;
        if (i == syllables.size()) {
            found = new int[] {pauses(frames, from, frames.size())};
        } else {
            int[] s = syllables.get(i);
            int most = kind == 1 || kind == 3 ? s[1] : s[2];
            for (int begin = from; begin < frames.size(); begin++) {
                for (int length = s[1]; length <= most && begin + length <= frames.size(); length++) {
                    int[] rest = fitFrom(kind, frames, syllables, i + 1, begin + length, seen);
                    if (rest != null) {
                        int[] whole = new int[rest.length + 2];
                        System.arraycopy(rest, 0, whole, 2, rest.length);
                        whole[0] = pauses(frames, from, begin) + over(kind, s[0], frames, begin, length) + rest[0];
                        whole[1] = begin;
                        whole[2] = length;
                        found = found == null || Arrays.compare(whole, found) < 0 ? whole : found;
                    }
                }
            }
        }
        seen[i][from] = found == null ? new int[0] : found;
        return found;
    }

    private static int pauses(List<Integer> frames, int from, int to) {
        int cost = 0;
        for (int shape : frames.subList(from, to)) {
            cost += shape == 0 ? 0 : 2;
        }
        return cost;
    }

    private static int over(int kind, int shape, List<Integer> frames, int begin, int length) {
        int[] closed = {3, 3, 0, 0};
        int[] other = {1, 1, 0, 1};
        int cost = 0;
        for (int frame : frames.subList(begin, begin + length)) {
            if (frame != shape) {
                cost += frame * shape == 0 ? closed[kind] : other[kind];
            }
        }
        return cost;
    }

    private int cost(int wording) {
        if (noWording(wording)) {
            return Check.BEYOND;
        }
        int[] fit = fit(wording);
        return fit == null ? Check.NONE : fit[0];
    }

    private int place(int wording, int i, boolean length) {
        if (noWording(wording) || !from0(i, now.syllables.get(wording).size() - 1)) {
            return Check.BEYOND;
        }
        int[] fit = fit(wording);
        return fit == null ? Check.NONE : fit[1 + 2 * i + (length ? 1 : 0)];
    }

    private int on(int wording, int i) {
        if (noWording(wording) || !from0(i, now.frames.get(now.wordings.get(wording)[0]).size() - 1)) {
            return Check.BEYOND;
        }
        int[] fit = fit(wording);
        if (fit == null) {
            return Check.NONE;
        }
        int lying = -1;
        for (int k = 0; 2 * k + 2 < fit.length; k++) {
            lying = fit[2 * k + 1] <= i && i < fit[2 * k + 1] + fit[2 * k + 2] ? k : lying;
        }
        return lying;
    }

    private int name(int word, int name) {
        return exchange(now.names, word, name, -1, 7);
    }

    private static int exchange(int[] row, int i, int v, int least, int most) {
        if (!from0(i, row.length - 1) || v < least || v > most) {
            return Check.BEYOND;
        }
        int was = row[i];
        row[i] = v;
        return was;
    }

    private int text(int[] a) {
        if (!from0(a[0], 2) || !from0(a[1], 2) || !from0(a[2], 31) || !from0(a[3], 999)) {
            return Check.BEYOND;
        }
        if (now.texts.size() == 40) {
            return Check.FULL;
        }
        now.texts.add(a.clone());
        return now.texts.size();
    }

    /** Goes through the days up to this one: what is told later, or from a later day, takes the place of the rest. */
    private int barred(int land, int word, int day) {
        if (!from0(land, 2) || !from0(word, 31) || !from0(day, 999)) {
            return Check.BEYOND;
        }
        int barred = 0;
        for (int d = 0; d <= day; d++) {
            for (int[] t : now.texts) {
                if (t[0] == land && t[1] < 2 && t[2] == word && t[3] == d) {
                    barred = 1 - t[1];
                }
            }
        }
        return barred;
    }

    private int chosen(int land, int name, int day) {
        if (!from0(land, 2) || !from0(name, 7) || !from0(day, 999)) {
            return Check.BEYOND;
        }
        int chosen = Check.NONE;
        for (int d = 0; d <= day; d++) {
            for (int[] t : now.texts) {
                if (t[0] == land && t[1] == 2 && now.names[t[2]] == name && t[3] == d) {
                    chosen = t[2];
                }
            }
        }
        return chosen;
    }

    private int lawful(int wording, int land, int day) {
        if (noWording(wording) || !from0(land, 2) || !from0(day, 999)) {
            return Check.BEYOND;
        }
        int lawful = 1;
        for (int[] s : now.syllables.get(wording)) {
            int name = now.names[s[3]];
            int choice = name < 0 ? Check.NONE : chosen(land, name, day);
            if (barred(land, s[3], day) == 1 || choice != Check.NONE && choice != s[3]) {
                lawful = 0;
            }
        }
        return lawful;
    }

    private int best(int line, int land, int day) {
        if (noLine(line) || !from0(land, 2) || !from0(day, 999)) {
            return Check.BEYOND;
        }
        int best = Check.NONE;
        int most = 0;
        for (int w = now.wordings.size() - 1; w >= 0; w--) {
            if (now.wordings.get(w)[0] == line && lawful(w, land, day) == 1 && cost(w) != Check.NONE) {
                int worth = now.wordings.get(w)[2] - cost(w);
                if (best == Check.NONE || worth >= most) {
                    best = w;
                    most = worth;
                }
            }
        }
        return best;
    }

    private int worth(int land, int day) {
        if (!from0(land, 2) || !from0(day, 999)) {
            return Check.BEYOND;
        }
        int sum = 0;
        for (int line = 0; line < now.parts.size(); line++) {
            int best = best(line, land, day);
            sum += best == Check.NONE ? 0 : now.wordings.get(best)[2] - cost(best);
        }
        return sum;
    }

    private int loop(int set) {
        for (int bit = now.parts.size(); bit < 32; bit++) {
            if ((set >>> bit & 1) == 1) {
                return Check.BEYOND;
            }
        }
        if (set == 0) {
            return Check.SIZE;
        }
        if (now.loops.size() == 7) {
            return Check.FULL;
        }
        now.loops.add(set);
        return now.loops.size() - 1;
    }

    private int unloop() {
        if (now.loops.isEmpty()) {
            return Check.NONE;
        }
        now.loops.remove(now.loops.size() - 1);
        return now.loops.size();
    }

    /** CALLS of THE PLAN or NONE, how many plans, the first one's number with two bits a loop. */
    private int[] plans() {
        int n = now.loops.size();
        int[] found = {Check.NONE, 0, 0};
        for (int code = 0; code < 1 << 2 * n; code++) {
            int calls = callsOf(code, n);
            if (calls >= 0 && (found[1] == 0 || calls < found[0])) {
                found = new int[] {calls, 1, code};
            } else if (calls >= 0 && calls == found[0]) {
                found[1]++;
            }
        }
        return found;
    }

    private int callsOf(int code, int n) {
        int[] called = new int[4];
        int[] minutes = new int[4];
        for (int loop = 0; loop < n; loop++) {
            int day = code >> 2 * (n - 1 - loop) & 3;
            for (int line = 0; line < now.parts.size(); line++) {
                if ((now.loops.get(loop) >> line & 1) == 1) {
                    int actor = now.actors[now.parts.get(line)];
                    if (actor >= 0 && (now.free[actor] >> day & 1) == 0) {
                        return -1;
                    }
                    called[day] |= actor >= 0 ? 1 << actor : 0;
                    minutes[day] += 5;
                }
            }
        }
        int calls = 0;
        for (int day = 0; day < 4; day++) {
            if (minutes[day] > now.rooms[day]) {
                return -1;
            }
            calls += Integer.bitCount(called[day]);
        }
        return calls;
    }

    private int planned(int loop) {
        int n = now.loops.size();
        if (!from0(loop, n - 1)) {
            return Check.BEYOND;
        }
        int[] found = plans();
        return found[1] == 0 ? Check.NONE : found[2] >> 2 * (n - 1 - loop) & 3;
    }

    private static int longest(List<Integer> a, List<Integer> b) {
        int[][] kept = new int[a.size() + 1][b.size() + 1];
        for (int i = a.size() - 1; i >= 0; i--) {
            for (int j = b.size() - 1; j >= 0; j--) {
                kept[i][j] = Math.max(kept[i + 1][j], kept[i][j + 1]);
                if (a.get(i).equals(b.get(j))) {
                    kept[i][j] = Math.max(kept[i][j], 1 + kept[i + 1][j + 1]);
                }
            }
        }
        return kept[0][0];
    }

    private int change(int line, int s) {
        if (noLine(line) || !from0(s, 3)) {
            return Check.BEYOND;
        }
        if (sheetBits[s] == 0) {
            return Check.MISSING;
        }
        if (sheets[s].length > 24) {
            return Check.SIZE;
        }
        List<Integer> fresh = new ArrayList<>();
        for (int v : sheets[s]) {
            fresh.add(Math.floorMod(v, 4));
        }
        int kept = longest(now.frames.get(line), fresh);
        now.frames.set(line, fresh);
        return kept;
    }

    private int kept(int line, int other) {
        return noLine(line) || noLine(other) ? Check.BEYOND : longest(now.frames.get(line), now.frames.get(other));
    }

    private int sheet(int s, int bits, int n) {
        if (!from0(s, 3) || !List.of(0, 8, 16, 32).contains(bits)) {
            return Check.BEYOND;
        }
        if (n < 0) {
            return Check.SIZE;
        }
        if (n > 30) {
            return Check.BEYOND;
        }
        sheetBits[s] = bits;
        sheets[s] = new int[bits == 0 ? 0 : n];
        return sheets[s].length;
    }

    private int put(int s, int i, int v) {
        if (!from0(s, 3)) {
            return Check.BEYOND;
        }
        if (sheetBits[s] == 0) {
            return Check.MISSING;
        }
        if (!from0(i, sheets[s].length - 1)) {
            return Check.BEYOND;
        }
        sheets[s][i] = sheetBits[s] == 8 ? (byte) v : sheetBits[s] == 16 ? (short) v : v;
        return 0;
    }

    private int copy(int[] a) {
        if (!from0(a[0], 3) || !from0(a[2], 3)) {
            return Check.BEYOND;
        }
        if (sheetBits[a[0]] == 0 || sheetBits[a[2]] == 0) {
            return Check.MISSING;
        }
        if (sheetBits[a[0]] != sheetBits[a[2]]) {
            return Check.KIND;
        }
        long n = a[4];
        if (a[1] < 0 || a[3] < 0 || n < 0 || a[1] + n > sheets[a[0]].length || a[3] + n > sheets[a[2]].length) {
            return Check.BEYOND;
        }
        int[] taken = Arrays.copyOfRange(sheets[a[0]], a[1], a[1] + a[4]);
        for (int i = 0; i < taken.length; i++) {
            sheets[a[2]][a[3] + i] = taken[i];
        }
        return a[4];
    }

    private int undo() {
        if (earlier.isEmpty()) {
            return Check.NONE;
        }
        now = earlier.remove(earlier.size() - 1);
        return earlier.size();
    }

    private int all(int what) {
        int[] told = {now.parts.size(), now.wordings.size(), now.texts.size(), now.loops.size(), findings};
        return from0(what, 4) ? told[what] : Check.BEYOND;
    }
}
