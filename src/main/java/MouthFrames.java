/**
 * Mouths to sounds: signs of speech, a line of sounds cut into frames, how far the mouth is open
 * and how wide, a word list read from lips. ../shared/DOC.md says what each call answers.
 *
 * <p>All rows are made in the constructors and used again: no call makes an object.
 */
public final class MouthFrames {
    public static final int BAD = -1, NOT = -2, FULL = -3, NONE = -4, NULL = -11, CAST = -12, INDEX = -13, SIZE = -14;

    private static final int SHAPES = 8, SIGNS = 12, MOST_SIZE = 12, MOST_PULL = 5;
    private static final int MOST_SOUNDS = 12, MOST_TIME = 12, MOST_FRAMES = 100, MOST_WINDOW = 3;
    private static final int MOST_WORDS = 8, MOST_LETTERS = 6, MOST_KNOWN = 6, MOST_TURNS = 40;
    private static final int MOST_TYPED = 90, SHEETS = 4, LANES = 4, MOST_ITEMS = 24;
    private static final int AXIS_OPEN = 0, AXIS_WIDE = 1;
    private static final int NO_TEXT = 0, SAY = 1, WORD = 2, FRAME = 3, WINDOW = 4;
    private static final int FIRST_FAULT = -20;

    /** All numbers up to 13 divide it, so PULLED (by 3 and two PULLS) is a whole number of such parts. */
    private static final long PULL_PARTS = 360360;
    /** All numbers up to 7 divide it, so SMOOTH (by up to 7 FRAMES) is a whole number of parts, too. */
    private static final long WINDOW_PARTS = 420;
    private static final long SMOOTH_PARTS = PULL_PARTS * WINDOW_PARTS;

    private final Talk talk;
    /** What stood ahead of a call that tells something: it comes to the past if the call isn't refused. */
    private final Talk ahead;
    private final Past past;
    private final Talk imageTalk;
    private final Past imagePast;
    private boolean imaged;
    private final Cut cut;
    private final Mouth mouth;
    private final Tape tape;
    private final Sheet[] rows;

    public MouthFrames() {
        talk = new Talk();
        ahead = new Talk();
        past = new Past();
        imageTalk = new Talk();
        imagePast = new Past();
        imaged = false;
        cut = new Cut();
        mouth = new Mouth();
        tape = new Tape();
        rows = new Sheet[SHEETS];
        for (int i = 0; i < SHEETS; i++) {
            rows[i] = new Sheet();
        }
    }

    // ---- 1 signs, sounds, frames

    public int shape(int k, int open, int wide) {
        ahead.become(talk);
        return known(talk.tellShape(k, open, wide));
    }

    public int sign(int s, int shape, int pull) {
        ahead.become(talk);
        return known(talk.tellSign(s, shape, pull));
    }

    public int sound(int s, int time) {
        ahead.become(talk);
        return known(talk.addSound(s, time));
    }

    public int out(int i) {
        ahead.become(talk);
        return known(talk.removeSound(i));
    }

    public int frame(int a, int b) {
        ahead.become(talk);
        return known(talk.tellFrame(a, b));
    }

    public int window(int w) {
        ahead.become(talk);
        return known(talk.tellWindow(w));
    }

    public int told(int s, int what) {
        if (!within(s, 0, SIGNS - 1)) {
            return BAD;
        }
        switch (what) {
            case 0: return talk.shapeOf[s];
            case 1: return talk.pullOf[s];
            case 2: return talk.extent(s, AXIS_OPEN);
            case 3: return talk.extent(s, AXIS_WIDE);
            case 4: return talk.isClosed(s) ? 1 : 0;
            default: return BAD;
        }
    }

    public int sounds(int i, int what) {
        if (!within(i, 0, talk.soundCount - 1)) {
            return BAD;
        }
        cut.renew(talk);
        switch (what) {
            case 0: return talk.signAt[i];
            case 1: return talk.timeAt[i];
            case 2: return talk.startOf(i);
            case 3: return cut.firstOf(i);
            case 4: return cut.framesOf[i];
            case 5: return cut.lentBy[i];
            case 6: return cut.lostOf[i];
            default: return BAD;
        }
    }

    public int at(int f, int what) {
        cut.renew(talk);
        if (!within(f, 0, cut.frameCount - 1)) {
            return BAD;
        }
        switch (what) {
            case 0: return cut.soundAt[f];
            case 1: return cut.shapeAt[f];
            default: return BAD;
        }
    }

    public int count(int what) {
        cut.renew(talk);
        switch (what) {
            case 0: return talk.soundCount;
            case 1: return cut.frameCount;
            case 2: return talk.startOf(talk.soundCount);
            case 3: return cut.frameless;
            case 4: return cut.lost;
            case 5: return cut.holds;
            case 6: return cut.longestHold;
            case 7: return cut.frameCount == 0 ? NONE : cut.longestFrom;
            case 8: return talk.windowNow;
            case 9: return talk.wordCount;
            case 10: return past.many;
            default: return BAD;
        }
    }

    // ---- 2 what is seen

    public int pulled(int i, int axis, int what) {
        if (!within(i, 0, talk.soundCount - 1) || !isAxis(axis) || !isPart(what)) {
            return BAD;
        }
        return (int) fraction(Mouth.pulledParts(talk, i, axis), PULL_PARTS, what);
    }

    public long smooth(int f, int axis, int what) {
        cut.renew(talk);
        if (!within(f, 0, cut.frameCount - 1) || !isAxis(axis) || !isPart(what)) {
            return BAD;
        }
        mouth.renew(talk, axis);
        return fraction(mouth.smoothParts(cut, f, talk.windowNow), SMOOTH_PARTS, what);
    }

    public long jump(int axis, int what) {
        if (!isAxis(axis) || !isPart(what)) {
            return BAD;
        }
        cut.renew(talk);
        mouth.renew(talk, axis);
        return fraction(mouth.jumpParts(cut, talk.windowNow), SMOOTH_PARTS, what);
    }

    public int calm(int axis, int v) {
        if (!isAxis(axis) || !within(v, 0, MOST_SIZE)) {
            return BAD;
        }
        cut.renew(talk);
        mouth.renew(talk, axis);
        for (int w = 0; w <= MOST_WINDOW; w++) {
            if (mouth.jumpParts(cut, w) <= v * SMOOTH_PARTS) {
                return w;
            }
        }
        return NONE;
    }

    public int off(int i, int what) {
        if (!within(i, 0, talk.soundCount - 1) || !isPart(what)) {
            return BAD;
        }
        int start = talk.startOf(i);
        int apart = Math.abs(talk.markOf(start) * talk.frameLong - start * talk.frameBy);
        return (int) fraction(apart, talk.frameLong, what);
    }

    // ---- 3 words, what is done

    public int forget(int j) {
        ahead.become(talk);
        return known(talk.removeWord(j));
    }

    public int word(int j, int what) {
        if (!within(j, 0, talk.wordCount - 1)) {
            return BAD;
        }
        switch (what) {
            case 0: return talk.weightOf[j];
            case 1: return talk.lettersOf[j];
            case 2: return lookLength(talk.lookOf(j));
            case 3: return Integer.bitCount(talk.wordsLooking(talk.lookOf(j)));
            case 4: return leastOf(talk.wordsLooking(talk.lookOf(j)));
            default: return BAD;
        }
    }

    public int letter(int j, int k) {
        if (!within(j, 0, talk.wordCount - 1) || k < 0) {
            return BAD;
        }
        return k < talk.lettersOf[j] ? talk.letters[j][k] : NONE;
    }

    public int guess(int what) {
        if (!isPart(what)) {
            return BAD;
        }
        if (talk.wordCount == 0) {
            return NONE;
        }
        return (int) fraction(talk.guessedWeight(), talk.allWeight(), what);
    }

    public int type(int letter) {
        if (!within(letter, 32, 126)) {
            return BAD;
        }
        return tape.add(letter);
    }

    public int read() {
        tape.parse();
        tape.clear();
        if (tape.fault >= 0) {
            return FIRST_FAULT - tape.fault;
        }
        ahead.become(talk);
        return known(tellText());
    }

    public int drift(int n) {
        if (!within(n, 1, MOST_TURNS)) {
            return BAD;
        }
        for (int turn = 0; turn < n; turn++) {
            past.add(talk);
            talk.driftOnce();
        }
        return talk.soundCount;
    }

    public int undo() {
        if (past.many == 0) {
            return NONE;
        }
        past.takeLatest(talk);
        return past.many;
    }

    public int seed(int v) {
        if (v < 0) {
            return BAD;
        }
        int was = talk.draw;
        talk.draw = v;
        return was;
    }

    public int image() {
        imageTalk.become(talk);
        imagePast.become(past);
        imaged = true;
        return 1;
    }

    public int restore() {
        if (!imaged) {
            return NONE;
        }
        talk.become(imageTalk);
        past.become(imagePast);
        return 1;
    }

    // ---- sheets 0 .. 3: nothing (at first), or a row of a LANE

    public int seen(int sheet, int lane, int i, int n) {
        if (!within(n, 1, MOST_LETTERS)) {
            return BAD;
        }
        int refused = refusedRow(sheet, lane);
        if (refused < 0) {
            return refused;
        }
        if (!rows[sheet].holds(i, n)) {
            return INDEX;
        }
        int look = rows[sheet].lookFrom(i, n);
        return look < 0 ? NOT : talk.wordsLooking(look);
    }

    public int film(int sheet, int lane, int i) {
        int refused = refusedRow(sheet, lane);
        if (refused < 0) {
            return refused;
        }
        if (!rows[sheet].holds(i, talk.soundCount)) {
            return INDEX;
        }
        cut.renew(talk);
        for (int k = 0; k < talk.soundCount; k++) {
            rows[sheet].put(i + k, cut.framesOf[k]);
        }
        return talk.soundCount;
    }

    public int sheet(int sheet, int lane, int n) {
        if (!isSheet(sheet) || !within(lane, 0, LANES - 1) || n > MOST_ITEMS) {
            return BAD;
        }
        if (n < 0) {
            return SIZE;
        }
        rows[sheet].start(lane, n);
        return n;
    }

    public int drop(int sheet) {
        if (!isSheet(sheet)) {
            return BAD;
        }
        if (!rows[sheet].there) {
            return NULL;
        }
        rows[sheet].there = false;
        return rows[sheet].length;
    }

    public int item(int sheet, int lane, int i, long v) {
        int refused = refusedRow(sheet, lane);
        if (refused < 0) {
            return refused;
        }
        if (!rows[sheet].holds(i, 1)) {
            return INDEX;
        }
        rows[sheet].put(i, v);
        return 1;
    }

    public int copy(int from, int i, int to, int j, int n) {
        if (!isSheet(from) || !isSheet(to)) {
            return BAD;
        }
        if (!rows[from].there || !rows[to].there) {
            return NULL;
        }
        if (rows[from].lane != rows[to].lane) {
            return CAST;
        }
        if (!rows[from].holds(i, n) || !rows[to].holds(j, n)) {
            return INDEX;
        }
        System.arraycopy(rows[from].items, i, rows[to].items, j, n);
        return n;
    }

    // ---- what several calls use

    /** Answers that are not below 0 tell that something was told: what stood ahead may be UNDONE then. */
    private int known(int answer) {
        if (answer >= 0) {
            past.add(ahead);
        }
        return answer;
    }

    private int tellText() {
        switch (tape.kind) {
            case SAY: return talk.tellLine(tape.signs, tape.times, tape.many);
            case WORD: return talk.addWord(tape.first, tape.signs, tape.many);
            case FRAME: return talk.tellFrame(tape.first, tape.second);
            case WINDOW: return talk.tellWindow(tape.first);
            default: return BAD;
        }
    }

    /** BAD, NULL, CAST of a SHEET taken as a row of a LANE; 0, if it is such a row. */
    private int refusedRow(int sheet, int lane) {
        if (!isSheet(sheet) || !within(lane, 0, LANES - 1)) {
            return BAD;
        }
        if (!rows[sheet].there) {
            return NULL;
        }
        return rows[sheet].lane == lane ? 0 : CAST;
    }

    private static boolean within(int v, int low, int high) {
        return v >= low && v <= high;
    }

    private static boolean isAxis(int axis) {
        return axis == AXIS_OPEN || axis == AXIS_WIDE;
    }

    private static boolean isPart(int what) {
        return what == 0 || what == 1;
    }

    private static boolean isSheet(int sheet) {
        return within(sheet, 0, SHEETS - 1);
    }

    /** Above (what 0) or below (1) of a fraction that is 0 or more, in lowest terms. */
    private static long fraction(long above, long below, int what) {
        return quotient(what == 0 ? above : below, commonDivisor(above, below));
    }

    /** All that divides by what isn't a constant: no divisor here is 0, and this looks at it. */
    private static long quotient(long above, long below) {
        return below == 0 ? 0 : above / below;
    }

    /** A hundred steps are more than two longs can need. */
    private static long commonDivisor(long a, long b) {
        for (int step = 0; step < 100 && b != 0; step++) {
            long left = a % b;
            a = b;
            b = left;
        }
        return a;
    }

    /**
     * A LOOK is kept as one number: a 1, then three bits for each SHAPE, so that LOOKS are the same
     * if their numbers are. This is the LOOK with a SHAPE more behind it.
     */
    private static int lookAnd(int look, int shape) {
        boolean same = look >= SHAPES && look % SHAPES == shape;
        return same ? look : look * SHAPES + shape;
    }

    private static int lookLength(int look) {
        int length = 0;
        while (length < MOST_LETTERS && look >= SHAPES) {
            look /= SHAPES;
            length++;
        }
        return length;
    }

    /** The least number in a set of WORDS. */
    private static int leastOf(int set) {
        for (int j = 0; j < MOST_WORDS; j++) {
            if ((set >> j) % 2 != 0) {
                return j;
            }
        }
        return NONE;
    }

    /** All that UNDO and IMAGES bring back: SHAPES, SIGNS, THE LINE, FRAME, WINDOW, THE LIST, THE DRAW. */
    private static final class Talk {
        final int[] openOf = new int[SHAPES];
        final int[] wideOf = new int[SHAPES];
        final int[] shapeOf = new int[SIGNS];
        final int[] pullOf = new int[SIGNS];
        final int[] signAt = new int[MOST_SOUNDS];
        final int[] timeAt = new int[MOST_SOUNDS];
        int soundCount = 0;
        int frameLong = 4;
        int frameBy = 1;
        int windowNow = 1;
        final int[] weightOf = new int[MOST_WORDS];
        final int[] lettersOf = new int[MOST_WORDS];
        final int[][] letters = new int[MOST_WORDS][MOST_LETTERS];
        int wordCount = 0;
        int draw = 1;

        Talk() {
            for (int k = 0; k < SHAPES; k++) {
                openOf[k] = k;
                wideOf[k] = MOST_SIZE - k;
            }
            for (int s = 0; s < SIGNS; s++) {
                shapeOf[s] = s % SHAPES;
                pullOf[s] = 1;
            }
        }

        void become(Talk other) {
            System.arraycopy(other.openOf, 0, openOf, 0, SHAPES);
            System.arraycopy(other.wideOf, 0, wideOf, 0, SHAPES);
            System.arraycopy(other.shapeOf, 0, shapeOf, 0, SIGNS);
            System.arraycopy(other.pullOf, 0, pullOf, 0, SIGNS);
            System.arraycopy(other.signAt, 0, signAt, 0, MOST_SOUNDS);
            System.arraycopy(other.timeAt, 0, timeAt, 0, MOST_SOUNDS);
            soundCount = other.soundCount;
            frameLong = other.frameLong;
            frameBy = other.frameBy;
            windowNow = other.windowNow;
            System.arraycopy(other.weightOf, 0, weightOf, 0, MOST_WORDS);
            System.arraycopy(other.lettersOf, 0, lettersOf, 0, MOST_WORDS);
            for (int j = 0; j < MOST_WORDS; j++) {
                System.arraycopy(other.letters[j], 0, letters[j], 0, MOST_LETTERS);
            }
            wordCount = other.wordCount;
            draw = other.draw;
        }

        int extent(int s, int axis) {
            return axis == AXIS_OPEN ? openOf[shapeOf[s]] : wideOf[shapeOf[s]];
        }

        boolean isClosed(int s) {
            return openOf[shapeOf[s]] == 0;
        }

        int startOf(int i) {
            int start = 0;
            for (int k = 0; k < i; k++) {
                start += timeAt[k];
            }
            return start;
        }

        int markOf(int time) {
            return markBy(time, frameLong, frameBy);
        }

        static int markBy(int time, int a, int b) {
            return (int) quotient(2 * time * b + a, 2 * a);
        }

        int tellShape(int k, int open, int wide) {
            if (!within(k, 0, SHAPES - 1) || !within(open, 0, MOST_SIZE) || !within(wide, 0, MOST_SIZE)) {
                return BAD;
            }
            if (openOf[k] == open && wideOf[k] == wide) {
                return NOT;
            }
            int was = (MOST_SIZE + 1) * openOf[k] + wideOf[k];
            openOf[k] = open;
            wideOf[k] = wide;
            return was;
        }

        int tellSign(int s, int shape, int pull) {
            if (!within(s, 0, SIGNS - 1) || !within(shape, 0, SHAPES - 1) || !within(pull, 0, MOST_PULL)) {
                return BAD;
            }
            if (shapeOf[s] == shape && pullOf[s] == pull) {
                return NOT;
            }
            int was = (MOST_PULL + 1) * shapeOf[s] + pullOf[s];
            shapeOf[s] = shape;
            pullOf[s] = pull;
            return was;
        }

        int addSound(int s, int time) {
            if (!within(s, 0, SIGNS - 1) || !within(time, 1, MOST_TIME)) {
                return BAD;
            }
            if (soundCount >= MOST_SOUNDS || markOf(startOf(soundCount) + time) > MOST_FRAMES) {
                return FULL;
            }
            signAt[soundCount] = s;
            timeAt[soundCount] = time;
            soundCount++;
            return soundCount - 1;
        }

        int removeSound(int i) {
            if (!within(i, 0, soundCount - 1)) {
                return BAD;
            }
            soundCount--;
            for (int k = i; k < soundCount; k++) {
                signAt[k] = signAt[k + 1];
                timeAt[k] = timeAt[k + 1];
            }
            return soundCount;
        }

        int tellFrame(int a, int b) {
            if (!within(a, 1, 12) || !within(b, 1, 2)) {
                return BAD;
            }
            if (frameLong == a && frameBy == b) {
                return NOT;
            }
            if (markBy(startOf(soundCount), a, b) > MOST_FRAMES) {
                return FULL;
            }
            int was = 10 * frameLong + frameBy;
            frameLong = a;
            frameBy = b;
            return was;
        }

        int tellWindow(int w) {
            if (!within(w, 0, MOST_WINDOW)) {
                return BAD;
            }
            if (windowNow == w) {
                return NOT;
            }
            int was = windowNow;
            windowNow = w;
            return was;
        }

        /** The rows come from a TEXT: its SIGNS and TIMES are looked at there. */
        int tellLine(int[] signs, int[] times, int many) {
            int time = 0;
            for (int i = 0; i < many; i++) {
                time += times[i];
            }
            if (markOf(time) > MOST_FRAMES) {
                return FULL;
            }
            System.arraycopy(signs, 0, signAt, 0, many);
            System.arraycopy(times, 0, timeAt, 0, many);
            soundCount = many;
            return soundCount;
        }

        int addWord(int weight, int[] signs, int many) {
            if (hasWord(signs, many)) {
                return NOT;
            }
            if (wordCount >= MOST_WORDS) {
                return FULL;
            }
            weightOf[wordCount] = weight;
            lettersOf[wordCount] = many;
            System.arraycopy(signs, 0, letters[wordCount], 0, many);
            wordCount++;
            return wordCount;
        }

        private boolean hasWord(int[] signs, int many) {
            for (int j = 0; j < wordCount; j++) {
                if (lettersOf[j] == many && startsLike(letters[j], signs, many)) {
                    return true;
                }
            }
            return false;
        }

        private static boolean startsLike(int[] row, int[] other, int many) {
            for (int k = 0; k < many; k++) {
                if (row[k] != other[k]) {
                    return false;
                }
            }
            return true;
        }

        int removeWord(int j) {
            if (!within(j, 0, wordCount - 1)) {
                return BAD;
            }
            wordCount--;
            for (int k = j; k < wordCount; k++) {
                weightOf[k] = weightOf[k + 1];
                lettersOf[k] = lettersOf[k + 1];
                System.arraycopy(letters[k + 1], 0, letters[k], 0, MOST_LETTERS);
            }
            return wordCount;
        }

        int lookOf(int j) {
            int look = 1;
            for (int k = 0; k < lettersOf[j]; k++) {
                look = lookAnd(look, shapeOf[letters[j][k]]);
            }
            return look;
        }

        int wordsLooking(int look) {
            int set = 0;
            for (int j = 0; j < wordCount; j++) {
                if (lookOf(j) == look) {
                    set |= 1 << j;
                }
            }
            return set;
        }

        int guessedWeight() {
            int weight = 0;
            for (int j = 0; j < wordCount; j++) {
                if (isGuessed(j)) {
                    weight += weightOf[j];
                }
            }
            return weight;
        }

        private boolean isGuessed(int j) {
            int look = lookOf(j);
            for (int k = 0; k < wordCount; k++) {
                boolean better = weightOf[k] > weightOf[j] || (weightOf[k] == weightOf[j] && k < j);
                if (better && lookOf(k) == look) {
                    return false;
                }
            }
            return true;
        }

        int allWeight() {
            int weight = 0;
            for (int j = 0; j < wordCount; j++) {
                weight += weightOf[j];
            }
            return weight;
        }

        /** What a turn tells may be refused: THE DRAW goes on all the same. */
        void driftOnce() {
            draw = (int) ((draw * 1103515245L + 12345L) & 0x7fffffffL);
            int x = draw / 65536;
            int p = x / 8 % 12;
            int q = x / 128 % 12;
            int r = x / 2048;
            switch (x % 8) {
                case 0:
                case 1:
                case 2: addSound(p, q + 1); break;
                case 3: tellSign(p, q % 8, r % 6); break;
                case 4: tellShape(p % 8, q, r % 13); break;
                case 5: removeSound(p); break;
                case 6: tellFrame(p + 1, q % 2 + 1); break;
                default: tellWindow(p % 4); break;
            }
        }
    }

    /** What stood ahead of the latest that may be UNDONE, the oldest first. */
    private static final class Past {
        final Talk[] states = new Talk[MOST_KNOWN];
        int many = 0;

        Past() {
            for (int i = 0; i < MOST_KNOWN; i++) {
                states[i] = new Talk();
            }
        }

        void add(Talk state) {
            if (many == MOST_KNOWN) {
                loseOldest();
            }
            states[many].become(state);
            many++;
        }

        private void loseOldest() {
            Talk oldest = states[0];
            for (int i = 1; i < MOST_KNOWN; i++) {
                states[i - 1] = states[i];
            }
            states[MOST_KNOWN - 1] = oldest;
            many = MOST_KNOWN - 1;
        }

        void takeLatest(Talk into) {
            if (many > 0) {
                many--;
                into.become(states[many]);
            }
        }

        void become(Past other) {
            for (int i = 0; i < other.many; i++) {
                states[i].become(other.states[i]);
            }
            many = other.many;
        }
    }

    /** THE LINE cut into FRAMES, as LENT, and its HOLDS: made anew from the talk whenever it is asked for. */
    private static final class Cut {
        static final int NOBODY = 0, SOUND_AHEAD = 1, SOUND_BEHIND = 2;

        final int[] framesOf = new int[MOST_SOUNDS];
        final int[] lentBy = new int[MOST_SOUNDS];
        final int[] lostOf = new int[MOST_SOUNDS];
        int frameless = 0;
        int lost = 0;
        final int[] soundAt = new int[MOST_FRAMES];
        final int[] shapeAt = new int[MOST_FRAMES];
        int frameCount = 0;
        int holds = 0;
        int longestHold = 0;
        int longestFrom = 0;

        void renew(Talk talk) {
            cutByMarks(talk);
            lend(talk);
            placeSounds(talk);
            findHolds();
        }

        private void cutByMarks(Talk talk) {
            int start = 0;
            for (int i = 0; i < talk.soundCount; i++) {
                int end = start + talk.timeAt[i];
                framesOf[i] = talk.markOf(end) - talk.markOf(start);
                start = end;
            }
        }

        private void lend(Talk talk) {
            frameless = 0;
            lost = 0;
            for (int i = 0; i < talk.soundCount; i++) {
                boolean unseen = talk.isClosed(talk.signAt[i]) && framesOf[i] == 0;
                lentBy[i] = unseen ? lendTo(i, talk.soundCount) : NOBODY;
                lostOf[i] = unseen && lentBy[i] == NOBODY ? 1 : 0;
                lost += lostOf[i];
                frameless += framesOf[i] == 0 ? 1 : 0;
            }
        }

        private int lendTo(int i, int soundCount) {
            if (i > 0 && framesOf[i - 1] >= 2) {
                framesOf[i - 1]--;
                framesOf[i]++;
                return SOUND_AHEAD;
            }
            if (i + 1 < soundCount && framesOf[i + 1] >= 2) {
                framesOf[i + 1]--;
                framesOf[i]++;
                return SOUND_BEHIND;
            }
            return NOBODY;
        }

        private void placeSounds(Talk talk) {
            frameCount = 0;
            for (int i = 0; i < talk.soundCount; i++) {
                for (int k = 0; k < framesOf[i] && frameCount < MOST_FRAMES; k++) {
                    soundAt[frameCount] = i;
                    shapeAt[frameCount] = talk.shapeOf[talk.signAt[i]];
                    frameCount++;
                }
            }
        }

        private void findHolds() {
            holds = 0;
            longestHold = 0;
            longestFrom = 0;
            int from = 0;
            for (int f = 0; f < frameCount; f++) {
                if (f == 0 || shapeAt[f] != shapeAt[f - 1]) {
                    holds++;
                    from = f;
                }
                if (f - from + 1 > longestHold) {
                    longestHold = f - from + 1;
                    longestFrom = from;
                }
            }
        }

        int firstOf(int i) {
            int first = 0;
            for (int k = 0; k < i; k++) {
                first += framesOf[k];
            }
            return first;
        }
    }

    /** How far the mouth is open, or how wide, frame by frame: in whole parts, so that nothing is rounded. */
    private static final class Mouth {
        /** Each SOUND is pulled once, not for each of its FRAMES. */
        final long[] pulls = new long[MOST_SOUNDS];
        /** SOUNDS at which the mouth is shut, whatever the FRAMES around them are. */
        final boolean[] shut = new boolean[MOST_SOUNDS];

        void renew(Talk talk, int axis) {
            for (int i = 0; i < talk.soundCount; i++) {
                pulls[i] = pulledParts(talk, i, axis);
                shut[i] = axis == AXIS_OPEN && talk.isClosed(talk.signAt[i]);
            }
        }

        /** PULLED of a SOUND, as so many parts. */
        static long pulledParts(Talk talk, int i, int axis) {
            int s = talk.signAt[i];
            if (axis == AXIS_OPEN && talk.isClosed(s)) {
                return 0;
            }
            int above = 3 * talk.extent(s, axis);
            int below = 3;
            for (int k = i - 1; k <= i + 1; k += 2) {
                if (within(k, 0, talk.soundCount - 1)) {
                    int near = talk.signAt[k];
                    above += talk.pullOf[near] * talk.extent(near, axis);
                    below += talk.pullOf[near];
                }
            }
            return quotient(above * PULL_PARTS, below);
        }

        long smoothParts(Cut cut, int f, int w) {
            if (shut[cut.soundAt[f]]) {
                return 0;
            }
            int first = Math.max(0, f - w);
            int last = Math.min(cut.frameCount - 1, f + w);
            long together = 0;
            for (int g = first; g <= last; g++) {
                together += pulls[cut.soundAt[g]];
            }
            return quotient(together * WINDOW_PARTS, last - first + 1);
        }

        long jumpParts(Cut cut, int w) {
            long greatest = 0;
            for (int f = 1; f < cut.frameCount; f++) {
                long apart = Math.abs(smoothParts(cut, f, w) - smoothParts(cut, f - 1, w));
                greatest = Math.max(greatest, apart);
            }
            return greatest;
        }
    }

    /** THE TAPE, and what the TEXT on it says: read from left to right, the first FAULT counts. */
    private static final class Tape {
        final int[] typed = new int[MOST_TYPED];
        int length = 0;
        int place = 0;
        int fault = -1;
        int kind = NO_TEXT;
        /** SIGNS and TIMES of THE LINE, or SIGNS of a WORD: so many. */
        final int[] signs = new int[MOST_SOUNDS];
        final int[] times = new int[MOST_SOUNDS];
        int many = 0;
        /** WEIGHT of a WORD, a of a FRAME, or the WINDOW; b of a FRAME. */
        int first = 0;
        int second = 0;

        int add(int letter) {
            if (length >= MOST_TYPED) {
                return FULL;
            }
            typed[length] = letter;
            length++;
            return length;
        }

        void clear() {
            length = 0;
        }

        void parse() {
            place = 0;
            fault = -1;
            many = 0;
            parseName();
            switch (kind) {
                case SAY: parseSounds(); break;
                case WORD: parseWord(); break;
                case FRAME: parseFrame(); break;
                case WINDOW: first = figure(0, MOST_WINDOW); break;
                default: break;
            }
            skipBlanks();
            if (place < length) {
                fail(place);
            }
        }

        private void parseName() {
            skipBlanks();
            int start = place;
            while (place < length && stands('a', 'z')) {
                place++;
            }
            kind = kindFrom(start);
            if (kind == NO_TEXT) {
                fail(start);
            }
        }

        private int kindFrom(int start) {
            if (isName(start, "say")) {
                return SAY;
            }
            if (isName(start, "word")) {
                return WORD;
            }
            if (isName(start, "frame")) {
                return FRAME;
            }
            return isName(start, "window") ? WINDOW : NO_TEXT;
        }

        private boolean isName(int start, String name) {
            if (place - start != name.length()) {
                return false;
            }
            for (int k = 0; k < name.length(); k++) {
                if (typed[start + k] != name.charAt(k)) {
                    return false;
                }
            }
            return true;
        }

        private void parseSounds() {
            boolean more = true;
            for (int k = 0; k <= MOST_SOUNDS && more; k++) {
                parseSound();
                more = fault < 0 && takesComma();
            }
        }

        private void parseSound() {
            skipBlanks();
            if (many >= MOST_SOUNDS || !stands('a', 'l')) {
                fail(place);
                return;
            }
            signs[many] = typed[place] - 'a';
            place++;
            times[many] = number();
            many++;
        }

        private boolean takesComma() {
            skipBlanks();
            if (!stands(',', ',')) {
                return false;
            }
            place++;
            return true;
        }

        private void parseWord() {
            first = figure(1, 9);
            take(':');
            skipBlanks();
            while (many < MOST_LETTERS && stands('a', 'l')) {
                signs[many] = typed[place] - 'a';
                many++;
                place++;
            }
            if (many == 0) {
                fail(place);
            }
        }

        private void parseFrame() {
            first = number();
            take('/');
            second = figure(1, 2);
        }

        private void take(char sign) {
            skipBlanks();
            if (stands(sign, sign)) {
                place++;
            } else {
                fail(place);
            }
        }

        private int figure(int low, int high) {
            skipBlanks();
            if (!stands('0' + low, '0' + high)) {
                fail(place);
                return low;
            }
            place++;
            return typed[place - 1] - '0';
        }

        /** A third figure is left standing: nothing that may come next takes it, so it is the FAULT. */
        private int number() {
            int value = figure(0, 9);
            int start = place - 1;
            if (stands('0', '9')) {
                value = 10 * value + typed[place] - '0';
                place++;
            }
            if (!within(value, 1, 12)) {
                fail(start);
            }
            return value;
        }

        private void skipBlanks() {
            while (place < length && typed[place] == ' ') {
                place++;
            }
        }

        private boolean stands(int low, int high) {
            return place < length && typed[place] >= low && typed[place] <= high;
        }

        private void fail(int where) {
            if (fault < 0) {
                fault = where;
            }
        }
    }

    /** Items are kept as longs, cut to the LANE's bits when they come. */
    private static final class Sheet {
        boolean there = false;
        int lane = 0;
        int length = 0;
        final long[] items = new long[MOST_ITEMS];

        void start(int newLane, int n) {
            there = true;
            lane = newLane;
            length = n;
            for (int i = 0; i < MOST_ITEMS; i++) {
                items[i] = 0;
            }
        }

        /** Whether n items from i on are there; by subtraction, as a sum could wrap around. */
        boolean holds(int i, int n) {
            return i >= 0 && n >= 0 && i <= length && n <= length - i;
        }

        void put(int i, long v) {
            switch (lane) {
                case 0: items[i] = (byte) v; break;
                case 1: items[i] = (short) v; break;
                case 2: items[i] = (int) v; break;
                default: items[i] = v; break;
            }
        }

        int lookFrom(int i, int n) {
            int look = 1;
            for (int k = i; k < i + n; k++) {
                if (items[k] < 0 || items[k] >= SHAPES) {
                    return NOT;
                }
                look = lookAnd(look, (int) items[k]);
            }
            return look;
        }
    }
}
