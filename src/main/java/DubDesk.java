/** A desk for films that are spoken anew. The document's promises say what each call answers. */
public final class DubDesk {
    private static final int BEYOND = -100001;
    private static final int MISSING = -100002;
    private static final int SIZE = -100003;
    private static final int KIND = -100004;
    private static final int FULL = -100005;
    private static final int NONE = -100006;

    private static final int SHAPES = 4;
    private static final int PARTS = 6;
    private static final int MAX_LINES = 12;
    private static final int MAX_FRAMES = 24;
    private static final int MAX_WORDINGS = 20;
    private static final int MAX_SENSE = 100;
    private static final int MAX_SYLLABLES = 8;
    private static final int MAX_LENGTH = 6;
    private static final int KINDS = 4;
    private static final int SUNG = 1;
    private static final int CROWD = 2;
    private static final int WHISPER = 3;
    /** The kind that each kind stands under; -1 for the one at the top. */
    private static final int[] UNDER = {-1, 0, 0, 1};

    private static final int WORDS = 32;
    private static final int NAMES = 8;
    private static final int LANDS = 3;
    private static final int DAYS = 1000;
    private static final int MAX_TEXTS = 40;
    private static final int SORTS = 3;
    private static final int SORT_BARRED = 0;
    private static final int SORT_CHOSEN = 2;

    private static final int ACTORS = 8;
    private static final int WORK_DAYS = 4;
    private static final int EVERY_WORK_DAY = 15;
    private static final int MAX_ROOM = 100;
    private static final int FIRST_ROOM = 60;
    private static final int MAX_LOOPS = 7;
    private static final int LINE_MINUTES = 5;

    private static final int SHEETS = 4;
    private static final int MAX_NUMBERS = 30;
    private static final int SHAPE_BITS = 3;

    private static final int MAX_UNDONE = 20;
    private static final int DID_LINE = 0;
    private static final int DID_FRAME = 1;
    private static final int DID_WORDING = 2;
    private static final int DID_SYLLABLE = 3;
    private static final int DID_CUT = 4;
    private static final int DID_NAME = 5;
    private static final int DID_TEXT = 6;
    private static final int DID_ACTOR = 7;
    private static final int DID_FREE = 8;
    private static final int DID_ROOM = 9;
    private static final int DID_LOOP = 10;
    private static final int DID_UNLOOP = 11;
    private static final int DID_CHANGE = 12;

    /** More than any cost can be: 24 frames at 3 each are 72. */
    private static final int NO_FIT = 1000000;
    /** More than any plan can call: 8 actors on 4 days are 32. */
    private static final int NO_PLAN = 1000000;

    private final Line[] lines = new Line[MAX_LINES];
    private final Wording[] wordings = new Wording[MAX_WORDINGS];
    private final Sheet[] sheets = new Sheet[SHEETS];
    private final LawBook laws = new LawBook();
    private final Crew crew = new Crew();
    private final Planner planner = new Planner();
    private final Fit fit = new Fit();
    private final Match match = new Match();
    private final History history = new History();
    private final int[] newShapes = new int[MAX_FRAMES];
    private int lineCount = 0;
    private int wordingCount = 0;
    private int findings = 0;

    public DubDesk() {
        for (int i = 0; i < MAX_LINES; i++) {
            lines[i] = new Line();
        }
        for (int i = 0; i < MAX_WORDINGS; i++) {
            wordings[i] = new Wording();
        }
        for (int i = 0; i < SHEETS; i++) {
            sheets[i] = new Sheet();
        }
    }

    // ---- lines, wordings

    public int line(int part) {
        if (!within(part, PARTS)) {
            return finding(BEYOND);
        }
        if (lineCount >= MAX_LINES) {
            return finding(FULL);
        }
        lines[lineCount].begin(part);
        lineCount++;
        remember(DID_LINE, 0, 0);
        return lineCount - 1;
    }

    public int frame(int line, int shape) {
        if (!isLine(line) || !within(shape, SHAPES)) {
            return finding(BEYOND);
        }
        Line at = lines[line];
        if (at.frameCount >= MAX_FRAMES) {
            return finding(FULL);
        }
        at.shapes[at.frameCount] = shape;
        at.frameCount++;
        remember(DID_FRAME, line, 0);
        return at.frameCount;
    }

    public int wording(int line, int kind, int sense) {
        if (!isLine(line) || !within(kind, KINDS) || !within(sense, MAX_SENSE + 1)) {
            return finding(BEYOND);
        }
        if (wordingCount >= MAX_WORDINGS) {
            return finding(FULL);
        }
        wordings[wordingCount].begin(line, kind, sense);
        wordingCount++;
        remember(DID_WORDING, 0, 0);
        return wordingCount - 1;
    }

    public int as(int wording, int kind) {
        if (!isWording(wording) || !within(kind, KINDS)) {
            return finding(BEYOND);
        }
        if (!wordings[wording].isOfKind(kind)) {
            return finding(KIND);
        }
        return wording;
    }

    public int syllable(int wording, int shape, int least, int most, int word) {
        if (!isWording(wording) || !within(shape, SHAPES) || !isLength(least) || !isLength(most)
                || !within(word, WORDS)) {
            return finding(BEYOND);
        }
        if (least > most) {
            return finding(SIZE);
        }
        Wording at = wordings[wording];
        if (at.syllableCount >= MAX_SYLLABLES) {
            return finding(FULL);
        }
        at.append(shape, least, most, word);
        remember(DID_SYLLABLE, wording, 0);
        return at.syllableCount;
    }

    public int cut(int wording) {
        if (!isWording(wording)) {
            return finding(BEYOND);
        }
        Wording at = wordings[wording];
        if (at.syllableCount <= 0) {
            return finding(NONE);
        }
        at.syllableCount--;
        remember(DID_CUT, wording, 0).keepSyllable(at);
        return at.syllableCount;
    }

    public int of(int wording, int what) {
        if (!isWording(wording)) {
            return finding(BEYOND);
        }
        Wording at = wordings[wording];
        switch (what) {
            case 0: return at.line;
            case 1: return at.kind;
            case 2: return at.sense;
            case 3: return at.syllableCount;
            default: return finding(BEYOND);
        }
    }

    public int told(int line, int what) {
        if (!isLine(line)) {
            return finding(BEYOND);
        }
        switch (what) {
            case 0: return lines[line].part;
            case 1: return lines[line].frameCount;
            case 2: return countWordings(line);
            default: return finding(BEYOND);
        }
    }

    public int shape(int line, int i) {
        if (!isLine(line) || !within(i, lines[line].frameCount)) {
            return finding(BEYOND);
        }
        return lines[line].shapes[i];
    }

    public int cost(int wording) {
        if (!isWording(wording)) {
            return finding(BEYOND);
        }
        if (!findFit(wording)) {
            return finding(NONE);
        }
        return fit.leastCost;
    }

    public int place(int wording, int i, boolean length) {
        if (!isWording(wording) || !within(i, wordings[wording].syllableCount)) {
            return finding(BEYOND);
        }
        if (!findFit(wording)) {
            return finding(NONE);
        }
        return length ? fit.lengths[i] : fit.begins[i];
    }

    public int on(int wording, int i) {
        if (!isWording(wording) || !within(i, lines[wordings[wording].line].frameCount)) {
            return finding(BEYOND);
        }
        if (!findFit(wording)) {
            return finding(NONE);
        }
        return fit.syllableOn(i);
    }

    // ---- texts

    public int name(int word, int name) {
        if (!within(word, WORDS) || !isNoneOrWithin(name, NAMES)) {
            return finding(BEYOND);
        }
        int was = laws.names[word];
        laws.names[word] = name;
        remember(DID_NAME, word, was);
        return was;
    }

    public int text(int land, int sort, int word, int day) {
        if (!within(land, LANDS) || !within(sort, SORTS) || !within(word, WORDS) || !within(day, DAYS)) {
            return finding(BEYOND);
        }
        if (laws.textCount >= MAX_TEXTS) {
            return finding(FULL);
        }
        laws.append(land, sort, word, day);
        remember(DID_TEXT, 0, 0);
        return laws.textCount;
    }

    public int barred(int land, int word, int day) {
        if (!within(land, LANDS) || !within(word, WORDS) || !within(day, DAYS)) {
            return finding(BEYOND);
        }
        return laws.isBarred(land, word, day) ? 1 : 0;
    }

    public int chosen(int land, int name, int day) {
        if (!within(land, LANDS) || !within(name, NAMES) || !within(day, DAYS)) {
            return finding(BEYOND);
        }
        int word = laws.choiceFor(land, name, day);
        return word < 0 ? finding(NONE) : word;
    }

    public int lawful(int wording, int land, int day) {
        if (!isWording(wording) || !within(land, LANDS) || !within(day, DAYS)) {
            return finding(BEYOND);
        }
        return laws.allows(wordings[wording], land, day) ? 1 : 0;
    }

    public int best(int line, int land, int day) {
        if (!isLine(line) || !within(land, LANDS) || !within(day, DAYS)) {
            return finding(BEYOND);
        }
        int found = findBest(line, land, day);
        return found < 0 ? finding(NONE) : found;
    }

    public int worth(int land, int day) {
        if (!within(land, LANDS) || !within(day, DAYS)) {
            return finding(BEYOND);
        }
        int sum = 0;
        for (int line = 0; line < lineCount; line++) {
            int found = findBest(line, land, day);
            if (found >= 0 && findFit(found)) {
                sum += worthOfFit(found);
            }
        }
        return sum;
    }

    // ---- actors, loops

    public int actor(int part, int actor) {
        if (!within(part, PARTS) || !isNoneOrWithin(actor, ACTORS)) {
            return finding(BEYOND);
        }
        int was = crew.actorOf[part];
        crew.actorOf[part] = actor;
        remember(DID_ACTOR, part, was);
        return was;
    }

    public int free(int actor, int set) {
        if (!within(actor, ACTORS) || !within(set, EVERY_WORK_DAY + 1)) {
            return finding(BEYOND);
        }
        int was = crew.freeDays[actor];
        crew.freeDays[actor] = set;
        remember(DID_FREE, actor, was);
        return was;
    }

    public int room(int day, int v) {
        if (!within(day, WORK_DAYS) || !within(v, MAX_ROOM + 1)) {
            return finding(BEYOND);
        }
        int was = crew.rooms[day];
        crew.rooms[day] = v;
        remember(DID_ROOM, day, was);
        return was;
    }

    public int loop(int set) {
        int everyLine = (1 << lineCount) - 1;
        if ((set & ~everyLine) != 0) {
            return finding(BEYOND);
        }
        if (set == 0) {
            return finding(SIZE);
        }
        if (crew.loopCount >= MAX_LOOPS) {
            return finding(FULL);
        }
        crew.appendLoop(set);
        remember(DID_LOOP, 0, 0);
        return crew.loopCount - 1;
    }

    public int unloop() {
        if (crew.loopCount <= 0) {
            return finding(NONE);
        }
        crew.loopCount--;
        remember(DID_UNLOOP, 0, crew.loops[crew.loopCount]);
        return crew.loopCount;
    }

    public int plan() {
        planner.seekPlans(crew, lines);
        return planner.planCount == 0 ? finding(NONE) : planner.fewestCalls;
    }

    public int planned(int loop) {
        if (!within(loop, crew.loopCount)) {
            return finding(BEYOND);
        }
        planner.seekPlans(crew, lines);
        return planner.planCount == 0 ? finding(NONE) : planner.firstDays[loop];
    }

    public int plans() {
        planner.seekPlans(crew, lines);
        return planner.planCount;
    }

    // ---- pictures

    public int change(int line, int s) {
        if (!isLine(line) || !within(s, SHEETS)) {
            return finding(BEYOND);
        }
        Sheet from = sheets[s];
        if (from.isMissing()) {
            return finding(MISSING);
        }
        if (from.size > MAX_FRAMES) {
            return finding(SIZE);
        }
        for (int i = 0; i < from.size; i++) {
            newShapes[i] = from.numbers[i] & SHAPE_BITS;
        }
        Line at = lines[line];
        int most = match.countKept(at.shapes, at.frameCount, newShapes, from.size);
        remember(DID_CHANGE, line, 0).keepFrames(at);
        at.takeFrames(newShapes, from.size);
        return most;
    }

    public int kept(int line, int other) {
        if (!isLine(line) || !isLine(other)) {
            return finding(BEYOND);
        }
        Line old = lines[line];
        Line fresh = lines[other];
        return match.countKept(old.shapes, old.frameCount, fresh.shapes, fresh.frameCount);
    }

    // ---- sheets, the whole

    public int sheet(int s, int bits, int n) {
        if (!within(s, SHEETS) || !(bits == 0 || bits == 8 || bits == 16 || bits == 32)) {
            return finding(BEYOND);
        }
        if (n < 0) {
            return finding(SIZE);
        }
        if (n > MAX_NUMBERS) {
            return finding(BEYOND);
        }
        sheets[s].begin(bits, n);
        return sheets[s].size;
    }

    public int put(int s, int i, int v) {
        if (!within(s, SHEETS)) {
            return finding(BEYOND);
        }
        if (sheets[s].isMissing()) {
            return finding(MISSING);
        }
        if (!within(i, sheets[s].size)) {
            return finding(BEYOND);
        }
        sheets[s].write(i, v);
        return 0;
    }

    public int copy(int s, int from, int t, int to, int n) {
        if (!within(s, SHEETS) || !within(t, SHEETS)) {
            return finding(BEYOND);
        }
        Sheet source = sheets[s];
        Sheet target = sheets[t];
        if (source.isMissing() || target.isMissing()) {
            return finding(MISSING);
        }
        if (source.bits != target.bits) {
            return finding(KIND);
        }
        if (!source.hasStretch(from, n) || !target.hasStretch(to, n)) {
            return finding(BEYOND);
        }
        System.arraycopy(source.numbers, from, target.numbers, to, n);
        return n;
    }

    public int undo() {
        if (history.count <= 0) {
            return finding(NONE);
        }
        Act act = history.takeLatest();
        planner.known = false;
        if (act.deed <= DID_CUT || act.deed == DID_CHANGE) {
            takeBackOfLines(act);
        } else {
            takeBackOfOthers(act);
        }
        return history.count;
    }

    public int all(int what) {
        switch (what) {
            case 0: return lineCount;
            case 1: return wordingCount;
            case 2: return laws.textCount;
            case 3: return crew.loopCount;
            case 4: return findings;
            default: return finding(BEYOND);
        }
    }

    // ---- what the calls share

    private int finding(int code) {
        findings++;
        return code;
    }

    private static boolean within(int v, int bound) {
        return v >= 0 && v < bound;
    }

    private static boolean isNoneOrWithin(int v, int bound) {
        return v == -1 || within(v, bound);
    }

    private static boolean isLength(int v) {
        return v >= 1 && v <= MAX_LENGTH;
    }

    private boolean isLine(int line) {
        return within(line, lineCount);
    }

    private boolean isWording(int wording) {
        return within(wording, wordingCount);
    }

    /** Every act that changes the desk passes here, so here the plan that was found may be out of date. */
    private Act remember(int deed, int which, int was) {
        planner.known = false;
        return history.append(deed, which, was);
    }

    private int countWordings(int line) {
        int count = 0;
        for (int w = 0; w < wordingCount; w++) {
            if (wordings[w].line == line) {
                count++;
            }
        }
        return count;
    }

    private boolean findFit(int wording) {
        Wording of = wordings[wording];
        return fit.seek(of, lines[of.line]);
    }

    /** Only behind a findFit of the same wording that found one. */
    private int worthOfFit(int wording) {
        return wordings[wording].sense - fit.leastCost;
    }

    private int findBest(int line, int land, int day) {
        int found = -1;
        int most = 0;
        for (int w = 0; w < wordingCount; w++) {
            if (wordings[w].line != line || !laws.allows(wordings[w], land, day) || !findFit(w)) {
                continue;
            }
            int worth = worthOfFit(w);
            if (found < 0 || worth > most) {
                found = w;
                most = worth;
            }
        }
        return found;
    }

    private void takeBackOfLines(Act act) {
        switch (act.deed) {
            case DID_LINE: lineCount--; break;
            case DID_FRAME: lines[act.which].frameCount--; break;
            case DID_WORDING: wordingCount--; break;
            case DID_SYLLABLE: wordings[act.which].syllableCount--; break;
            case DID_CUT: act.giveSyllableBack(wordings[act.which]); break;
            case DID_CHANGE: lines[act.which].takeFrames(act.row, act.rowSize); break;
            default: break;
        }
    }

    private void takeBackOfOthers(Act act) {
        switch (act.deed) {
            case DID_NAME: laws.names[act.which] = act.was; break;
            case DID_TEXT: laws.textCount--; break;
            case DID_ACTOR: crew.actorOf[act.which] = act.was; break;
            case DID_FREE: crew.freeDays[act.which] = act.was; break;
            case DID_ROOM: crew.rooms[act.which] = act.was; break;
            case DID_LOOP: crew.loopCount--; break;
            case DID_UNLOOP: crew.appendLoop(act.was); break;
            default: break;
        }
    }

    private static final class Line {
        final int[] shapes = new int[MAX_FRAMES];
        int part = 0;
        int frameCount = 0;

        void begin(int itsPart) {
            part = itsPart;
            frameCount = 0;
        }

        void takeFrames(int[] from, int count) {
            System.arraycopy(from, 0, shapes, 0, count);
            frameCount = count;
        }
    }

    private static final class Wording {
        final int[] shapes = new int[MAX_SYLLABLES];
        final int[] leasts = new int[MAX_SYLLABLES];
        final int[] mosts = new int[MAX_SYLLABLES];
        final int[] words = new int[MAX_SYLLABLES];
        int line = 0;
        int kind = 0;
        int sense = 0;
        int syllableCount = 0;

        void begin(int itsLine, int itsKind, int itsSense) {
            line = itsLine;
            kind = itsKind;
            sense = itsSense;
            syllableCount = 0;
        }

        /** Only while there are fewer than 8. */
        void append(int shape, int least, int most, int word) {
            shapes[syllableCount] = shape;
            leasts[syllableCount] = least;
            mosts[syllableCount] = most;
            words[syllableCount] = word;
            syllableCount++;
        }

        boolean isOfKind(int wanted) {
            int at = kind;
            for (int step = 0; step < KINDS && at >= 0; step++) {
                if (at == wanted) {
                    return true;
                }
                at = UNDER[at];
            }
            return false;
        }

        int longest(int syllable) {
            return kind == SUNG || kind == WHISPER ? leasts[syllable] : mosts[syllable];
        }

        int costOver(int syllable, int shape) {
            int own = shapes[syllable];
            if (own == shape || kind == CROWD) {
                return 0;
            }
            if (own == 0 || shape == 0) {
                return kind == WHISPER ? 0 : 3;
            }
            return 1;
        }
    }

    /** Finds THE FIT of one wording at a time; its rows hold the latest one. */
    private static final class Fit {
        /** The least cost of the frames from p on under the syllables from i on, at [i][p]. */
        final int[][] rest = new int[MAX_SYLLABLES + 1][MAX_FRAMES + 1];
        final int[] begins = new int[MAX_SYLLABLES];
        final int[] lengths = new int[MAX_SYLLABLES];
        int leastCost = 0;
        int syllableCount = 0;

        boolean seek(Wording wording, Line line) {
            syllableCount = wording.syllableCount;
            fillPauses(line);
            for (int i = syllableCount - 1; i >= 0; i--) {
                fillSyllable(wording, line, i);
            }
            leastCost = rest[0][0];
            if (leastCost >= NO_FIT) {
                return false;
            }
            trace(wording, line);
            return true;
        }

        int syllableOn(int frame) {
            for (int i = 0; i < syllableCount; i++) {
                if (frame >= begins[i] && frame < begins[i] + lengths[i]) {
                    return i;
                }
            }
            return -1;
        }

        private static int pauseCost(int shape) {
            return shape == 0 ? 0 : 2;
        }

        private void fillPauses(Line line) {
            int[] row = rest[syllableCount];
            row[line.frameCount] = 0;
            for (int p = line.frameCount - 1; p >= 0; p--) {
                row[p] = row[p + 1] + pauseCost(line.shapes[p]);
            }
        }

        private void fillSyllable(Wording wording, Line line, int i) {
            int[] row = rest[i];
            row[line.frameCount] = NO_FIT;
            for (int p = line.frameCount - 1; p >= 0; p--) {
                int paused = row[p + 1] + pauseCost(line.shapes[p]);
                row[p] = Math.min(paused, leastFrom(wording, line, i, p));
            }
        }

        /** The least cost if syllable i begins on frame p. */
        private int leastFrom(Wording wording, Line line, int i, int p) {
            int longest = Math.min(wording.longest(i), line.frameCount - p);
            int laid = 0;
            int least = NO_FIT;
            for (int length = 1; length <= longest; length++) {
                laid += wording.costOver(i, line.shapes[p + length - 1]);
                if (length >= wording.leasts[i]) {
                    least = Math.min(least, laid + rest[i + 1][p + length]);
                }
            }
            return least;
        }

        /** The first frame, then the least length, that still reaches the least cost is the one that is due. */
        private void trace(Wording wording, Line line) {
            int i = 0;
            int laidUpTo = 0;
            for (int p = 0; p < line.frameCount && i < syllableCount; p++) {
                int length = p < laidUpTo ? 0 : shortestFrom(wording, line, i, p);
                if (length > 0) {
                    begins[i] = p;
                    lengths[i] = length;
                    laidUpTo = p + length;
                    i++;
                }
            }
        }

        /** The least length with which syllable i, begun on frame p, reaches the least cost; 0 if none does. */
        private int shortestFrom(Wording wording, Line line, int i, int p) {
            int longest = Math.min(wording.longest(i), line.frameCount - p);
            int laid = 0;
            for (int length = 1; length <= longest; length++) {
                laid += wording.costOver(i, line.shapes[p + length - 1]);
                if (length >= wording.leasts[i] && laid + rest[i + 1][p + length] == rest[i][p]) {
                    return length;
                }
            }
            return 0;
        }
    }

    /** The names of words and the texts of all lands, in the order in which they were told. */
    private static final class LawBook {
        final int[] names = new int[WORDS];
        final int[] lands = new int[MAX_TEXTS];
        final int[] sorts = new int[MAX_TEXTS];
        final int[] words = new int[MAX_TEXTS];
        final int[] days = new int[MAX_TEXTS];
        int textCount = 0;

        LawBook() {
            for (int word = 0; word < WORDS; word++) {
                names[word] = -1;
            }
        }

        /** Only while there are fewer than 40. */
        void append(int land, int sort, int word, int day) {
            lands[textCount] = land;
            sorts[textCount] = sort;
            words[textCount] = word;
            days[textCount] = day;
            textCount++;
        }

        boolean isBarred(int land, int word, int day) {
            int found = -1;
            for (int t = 0; t < textCount; t++) {
                if (sorts[t] != SORT_CHOSEN && words[t] == word && overrules(t, found, land, day)) {
                    found = t;
                }
            }
            return found >= 0 && sorts[found] == SORT_BARRED;
        }

        /** The word that is chosen, by the names that words have now, or -1. */
        int choiceFor(int land, int name, int day) {
            int found = -1;
            for (int t = 0; t < textCount; t++) {
                if (sorts[t] == SORT_CHOSEN && names[words[t]] == name && overrules(t, found, land, day)) {
                    found = t;
                }
            }
            return found < 0 ? -1 : words[found];
        }

        boolean allows(Wording wording, int land, int day) {
            for (int i = 0; i < wording.syllableCount; i++) {
                if (!allowsWord(wording.words[i], land, day)) {
                    return false;
                }
            }
            return true;
        }

        private boolean allowsWord(int word, int land, int day) {
            if (isBarred(land, word, day)) {
                return false;
            }
            if (names[word] < 0) {
                return true;
            }
            int choice = choiceFor(land, names[word], day);
            return choice < 0 || choice == word;
        }

        /** Whether text t holds in the land on the day, and not ahead of the one found earlier (-1: none). */
        private boolean overrules(int t, int found, int land, int day) {
            return lands[t] == land && days[t] <= day && (found < 0 || days[t] >= days[found]);
        }
    }

    private static final class Crew {
        final int[] actorOf = new int[PARTS];
        final int[] freeDays = new int[ACTORS];
        final int[] rooms = new int[WORK_DAYS];
        final int[] loops = new int[MAX_LOOPS];
        int loopCount = 0;

        Crew() {
            for (int part = 0; part < PARTS; part++) {
                actorOf[part] = -1;
            }
            for (int actor = 0; actor < ACTORS; actor++) {
                freeDays[actor] = EVERY_WORK_DAY;
            }
            for (int day = 0; day < WORK_DAYS; day++) {
                rooms[day] = FIRST_ROOM;
            }
        }

        /** Only while there are fewer than 7. */
        void appendLoop(int set) {
            loops[loopCount] = set;
            loopCount++;
        }

        int actorsOfLoop(int loop, Line[] lines) {
            int actors = 0;
            for (int line = 0; line < MAX_LINES; line++) {
                int who = actorOf[lines[line].part];
                if ((loops[loop] >> line & 1) == 1 && who >= 0) {
                    actors |= 1 << who;
                }
            }
            return actors;
        }

        int daysOfActors(int actors) {
            int days = EVERY_WORK_DAY;
            for (int who = 0; who < ACTORS; who++) {
                if ((actors >> who & 1) == 1) {
                    days &= freeDays[who];
                }
            }
            return days;
        }
    }

    /** Looks through all plans, the first one first, and keeps what it found until the desk is changed. */
    private static final class Planner {
        private final int[] actors = new int[MAX_LOOPS];
        private final int[] openDays = new int[MAX_LOOPS];
        private final int[] minutes = new int[MAX_LOOPS];
        private final int[] days = new int[MAX_LOOPS];
        private final int[] called = new int[WORK_DAYS];
        private final int[] left = new int[WORK_DAYS];
        final int[] firstDays = new int[MAX_LOOPS];
        int fewestCalls = 0;
        int planCount = 0;
        boolean known = false;
        private int loopCount = 0;

        void seekPlans(Crew crew, Line[] lines) {
            if (known) {
                return;
            }
            prepare(crew, lines);
            giveDays(0, 0);
            known = true;
        }

        private void prepare(Crew crew, Line[] lines) {
            loopCount = crew.loopCount;
            for (int loop = 0; loop < loopCount; loop++) {
                actors[loop] = crew.actorsOfLoop(loop, lines);
                openDays[loop] = crew.daysOfActors(actors[loop]);
                minutes[loop] = LINE_MINUTES * Integer.bitCount(crew.loops[loop]);
            }
            for (int day = 0; day < WORK_DAYS; day++) {
                called[day] = 0;
                left[day] = crew.rooms[day];
            }
            fewestCalls = NO_PLAN;
            planCount = 0;
        }

        /** Gives days to the loops from this one on; calls are those of the loops ahead of it. */
        private void giveDays(int loop, int calls) {
            if (calls > fewestCalls) {
                return;
            }
            if (loop >= loopCount || loop >= MAX_LOOPS) {
                takePlan(calls);
                return;
            }
            for (int day = 0; day < WORK_DAYS; day++) {
                if ((openDays[loop] >> day & 1) == 0 || minutes[loop] > left[day]) {
                    continue;
                }
                int calledBefore = called[day];
                called[day] = calledBefore | actors[loop];
                left[day] -= minutes[loop];
                days[loop] = day;
                giveDays(loop + 1, calls + Integer.bitCount(actors[loop] & ~calledBefore));
                called[day] = calledBefore;
                left[day] += minutes[loop];
            }
        }

        private void takePlan(int calls) {
            if (calls < fewestCalls) {
                fewestCalls = calls;
                planCount = 0;
                System.arraycopy(days, 0, firstDays, 0, loopCount);
            }
            planCount++;
        }
    }

    /** Counts the frames that come in the same order in two pictures. */
    private static final class Match {
        /** At [j]: how many of the old frames so far are kept in the first j new ones. */
        private final int[] most = new int[MAX_FRAMES + 1];

        int countKept(int[] old, int oldCount, int[] fresh, int freshCount) {
            for (int j = 0; j <= freshCount; j++) {
                most[j] = 0;
            }
            for (int i = 0; i < oldCount; i++) {
                int aslant = 0;
                for (int j = 1; j <= freshCount; j++) {
                    int above = most[j];
                    most[j] = old[i] == fresh[j - 1] ? aslant + 1 : Math.max(above, most[j - 1]);
                    aslant = above;
                }
            }
            return most[freshCount];
        }
    }

    private static final class Sheet {
        final int[] numbers = new int[MAX_NUMBERS];
        int bits = 0;
        int size = 0;

        boolean isMissing() {
            return bits == 0;
        }

        void begin(int itsBits, int n) {
            bits = itsBits;
            size = itsBits == 0 ? 0 : n;
            for (int i = 0; i < MAX_NUMBERS; i++) {
                numbers[i] = 0;
            }
        }

        void write(int i, int v) {
            numbers[i] = bits == 32 ? v : v & ((1 << bits) - 1);
        }

        boolean hasStretch(int from, int n) {
            return from >= 0 && n >= 0 && n <= size && from <= size - n;
        }
    }

    /** One act that can be undone, with what it takes to undo it. */
    private static final class Act {
        final int[] row = new int[MAX_FRAMES];
        int rowSize = 0;
        int deed = 0;
        int which = 0;
        int was = 0;

        void keepFrames(Line line) {
            System.arraycopy(line.shapes, 0, row, 0, line.frameCount);
            rowSize = line.frameCount;
        }

        /** The syllable that was just cut: a later one may be written over it. */
        void keepSyllable(Wording wording) {
            int i = wording.syllableCount;
            row[0] = wording.shapes[i];
            row[1] = wording.leasts[i];
            row[2] = wording.mosts[i];
            row[3] = wording.words[i];
        }

        void giveSyllableBack(Wording wording) {
            wording.append(row[0], row[1], row[2], row[3]);
        }
    }

    /** The latest 20 acts, in a ring: the next one takes the place of the oldest. */
    private static final class History {
        private final Act[] acts = new Act[MAX_UNDONE];
        private int next = 0;
        int count = 0;

        History() {
            for (int i = 0; i < MAX_UNDONE; i++) {
                acts[i] = new Act();
            }
        }

        Act append(int deed, int which, int was) {
            Act act = acts[next];
            act.deed = deed;
            act.which = which;
            act.was = was;
            next = next + 1 < MAX_UNDONE ? next + 1 : 0;
            count = Math.min(count + 1, MAX_UNDONE);
            return act;
        }

        /** Only while there is one. */
        Act takeLatest() {
            next = next > 0 ? next - 1 : MAX_UNDONE - 1;
            count--;
            return acts[next];
        }
    }
}
