/** The sentences on signs, sounds, frames (==== 1, promises 1 to 11) that name a boundary. */
public final class LineBoundariesTest {
    private static final int BAD = Sentences.BAD, NOT = Sentences.NOT, FULL = Sentences.FULL, NONE = Sentences.NONE;
    private static final int NULL = Sentences.NULL, MIN = Sentences.MIN, MAX = Sentences.MAX;
    private static final Sentences t = new Sentences("signs, sounds, frames");

    private static MouthFrames after(String... texts) {
        return Sentences.after(texts);
    }

    private static long[] sounds(MouthFrames x, int what) {
        return Sentences.sounds(x, what);
    }

    private static long[] frames(MouthFrames x, int what) {
        return Sentences.frames(x, what);
    }

    /** A line of 100 FRAMES of 1 by 1, 9 SOUNDS: eight of 12, one of 4. */
    private static MouthFrames hundred() {
        return after("frame 1/1", "say b12,c12,d12,e12,f12,g12,h12,b12,c4");
    }

    private static void signs() {
        t.holds("==== 1", "SHAPES 0 .. 7 have OPEN, WIDE, each 0 .. 12", () -> {
            MouthFrames x = new MouthFrames();
            t.due("shape(0, 1, 1)", x.shape(0, 1, 1), 12);
            t.due("shape(7, 1, 1)", x.shape(7, 1, 1), 96);
            for (int k : new int[] {-1, 8, MIN, MAX}) t.due("shape " + k, x.shape(k, 1, 1), BAD);
            t.due("OPEN 0", x.shape(3, 0, 9), 48);
            t.due("OPEN 12", x.shape(3, 12, 9), 9);
            for (int v : new int[] {-1, 13, MIN, MAX}) t.due("OPEN " + v, x.shape(3, v, 9), BAD);
            t.due("WIDE 0", x.shape(3, 12, 0), 165);
            t.due("WIDE 12", x.shape(3, 12, 12), 156);
            for (int v : new int[] {-1, 13, MIN, MAX}) t.due("WIDE " + v, x.shape(3, 12, v), BAD);
            t.due("told(3, 2)", x.told(3, 2), 12);
            t.due("told(3, 3)", x.told(3, 3), 12);
        });
        t.holds("==== 1", "(at first SHAPE k: OPEN k, WIDE 12 less k)", () -> {
            MouthFrames x = new MouthFrames();
            for (int k = 0; k < 8; k++) t.due("shape " + k, x.shape(k, 12, 12), 13 * k + 12 - k);
        });
        t.holds("==== 1", "SIGNS 0 .. 11 (letters a .. l)", () -> {
            MouthFrames x = after("say a1,l1");
            t.dueRow("letters a, l", sounds(x, 0), 0, 11);
            t.due("sign 0", x.sign(0, 1, 1), 1);
            t.due("sign 11", x.sign(11, 1, 1), 19);
            for (int s : new int[] {-1, 12, MIN, MAX}) {
                t.due("sign " + s, x.sign(s, 1, 1), BAD);
                t.due("told " + s, x.told(s, 0), BAD);
                t.due("sound " + s, x.sound(s, 1), BAD);
            }
        });
        t.holds("==== 1", "(at first SIGN s: s left over by 8)", () -> {
            MouthFrames x = new MouthFrames();
            t.due("the last ahead of the wrap", x.told(7, 0), 7);
            t.due("the first behind it", x.told(8, 0), 0);
            t.due("the last SIGN", x.told(11, 0), 3);
            x.shape(0, 5, 6);
            t.due("SHAPE 0 is that of SIGN 8", x.told(8, 2), 5);
        });
        t.holds("==== 1", "a PULL 0 .. 5 (1 at first)", () -> {
            MouthFrames x = new MouthFrames();
            for (int s = 0; s < 12; s++) t.due("told(" + s + ", 1)", x.told(s, 1), 1);
            t.due("PULL 0", x.sign(2, 2, 0), 13);
            t.due("PULL 5", x.sign(2, 2, 5), 12);
            for (int v : new int[] {-1, 6, MIN, MAX}) t.due("PULL " + v, x.sign(2, 2, v), BAD);
            t.due("told(2, 1)", x.told(2, 1), 5);
        });
        t.holds("==== 1", "A SIGN is CLOSED, if OPEN of its SHAPE is 0.", () -> {
            MouthFrames x = new MouthFrames();
            t.due("OPEN 0", x.told(0, 4), 1);
            t.due("OPEN 0 of SIGN 8", x.told(8, 4), 1);
            t.due("OPEN 1", x.told(1, 4), 0);
            x.shape(0, 1, 0);
            t.due("WIDE 0 alone", x.told(0, 4), 0);
            x.shape(1, 0, 12);
            t.due("by its SHAPE", x.told(9, 4), 1);
            x.sign(5, 1, 0);
            t.due("by another SHAPE", x.told(5, 4), 1);
        });
    }

    private static void line() {
        t.holds("==== 1", "SOUNDS 0 on (none at first, 12 at most)", () -> {
            MouthFrames x = new MouthFrames();
            t.due("none at first", x.count(0), 0);
            t.due("sounds(0, 0) of none", x.sounds(0, 0), BAD);
            for (int i = 0; i < 12; i++) t.due("number", x.sound(i, 1), i);
            t.due("a 13th", x.sound(0, 1), FULL);
            t.due("12 of them", x.count(0), 12);
            t.due("the last", x.sounds(11, 0), 11);
            t.due("behind the last", x.sounds(12, 0), BAD);
            x.out(0);
            t.due("a 12th again", x.sound(7, 1), 11);
            t.due("12 at most again", x.sound(7, 1), FULL);
        });
        t.holds("==== 1", "each a SIGN, with a TIME 1 .. 12.", () -> {
            MouthFrames x = new MouthFrames();
            for (int v : new int[] {0, 13, -1, MIN, MAX}) t.due("TIME " + v, x.sound(0, v), BAD);
            t.due("TIME 1", x.sound(0, 1), 0);
            t.due("TIME 12", x.sound(11, 12), 1);
            t.dueRow("TIMES", sounds(x, 1), 1, 12);
        });
        t.holds("==== 1", "START of a SOUND: TIMES of all ahead of it together.", () -> {
            MouthFrames x = after("say b5,c12,d1,e7");
            t.dueRow("START", sounds(x, 2), 0, 5, 17, 18);
            x.out(0);
            t.dueRow("START without the first", sounds(x, 2), 0, 12, 13);
        });
        t.holds("==== 1", "A FRAME is a by b long (a 1 .. 12, b 1, 2; 4 by 1 at first).", () -> {
            MouthFrames x = new MouthFrames();
            t.due("4 by 1", x.frame(4, 1), NOT);
            for (int v : new int[] {0, 13, -1, MIN, MAX}) t.due("a " + v, x.frame(v, 1), BAD);
            for (int v : new int[] {0, 3, -1, MIN, MAX}) t.due("b " + v, x.frame(4, v), BAD);
            t.due("12 by 2", x.frame(12, 2), 41);
            t.due("1 by 1", x.frame(1, 1), 122);
            t.due("1 by 2", x.frame(1, 2), 11);
            t.due("12 by 1", x.frame(12, 1), 12);
        });
    }

    /** The MARK of a TIME: how many FRAMES a line of one SOUND (or of two, above 12) has. */
    private static void dueMark(int a, int b, int time, int want) {
        MouthFrames x = new MouthFrames();
        x.frame(a, b);
        if (time > 12) x.sound(1, 12);
        x.sound(1, time > 12 ? time - 12 : time);
        t.due("MARK of " + time + " by " + a + "/" + b, x.count(1), want);
    }

    private static void marks() {
        t.holds("==== 1", "MARK of t: t times b by a, rounded: the greatest whole number not above it and a half together.", () -> {
            int[][] even = {{4, 1, 1, 0}, {4, 1, 2, 1}, {4, 1, 5, 1}, {4, 1, 6, 2}, {12, 1, 5, 0}, {12, 1, 6, 1}, {12, 1, 17, 1}, {12, 1, 18, 2}};
            int[][] odd = {{5, 1, 2, 0}, {5, 1, 3, 1}, {7, 2, 1, 0}, {7, 2, 2, 1}, {3, 2, 1, 1}, {3, 2, 2, 1}, {3, 2, 3, 2}, {12, 2, 2, 0}};
            int[][] whole = {{12, 2, 3, 1}, {1, 1, 1, 1}, {1, 2, 1, 2}, {1, 2, 24, 48}, {2, 1, 1, 1}, {2, 2, 1, 1}, {12, 1, 24, 2}, {11, 1, 16, 1}};
            for (int[][] rows : new int[][][] {even, odd, whole}) {
                for (int[] r : rows) dueMark(r[0], r[1], r[2], r[3]);
            }
        });
        t.holds("==== 1", "The MARK of all TIMES together, how many FRAMES there are", () -> {
            t.due("nothing", new MouthFrames().count(1), 0);
            t.due("three of no FRAME each", after("say b1,c1,d1").count(1), 1);
            t.due("two of a rounded FRAME each", after("say b2,c2").count(1), 1);
            t.due("twelve of a rounded FRAME each", after("say b2,c2,d2,e2,f2,g2,h2,b2,c2,d2,e2,f2").count(1), 6);
            t.due("twelve of no FRAME each", after("say b1,c1,d1,e1,f1,g1,h1,b1,c1,d1,e1,f1").count(1), 3);
        });
        t.holds("==== 1", "is 100 at most: what would make it more is refused: FULL.", () -> {
            t.due("100 by say", hundred().count(1), 100);
            t.due("101 by sound", hundred().sound(1, 1), FULL);
            t.due("101 by say", Sentences.text(hundred(), "say b12,c12,d12,e12,f12,g12,h12,b12,c5"), FULL);
            MouthFrames x = hundred();
            x.out(8);
            t.due("100 by sound", x.sound(1, 4), 8);
            t.due("200 by frame", x.frame(1, 2), FULL);
            t.due("200 by a text of a FRAME", Sentences.text(x, "frame 1/2"), FULL);
            t.due("67 by frame", hundred().frame(3, 2), 11);
            t.due("101 by a turn", Sentences.turn(x, 0), 9);
            t.due("the FRAMES stay", x.count(1), 100);
            MouthFrames y = after("frame 2/2", "say b12,c12,d12,e12,f2");
            t.due("100 by frame", y.frame(1, 2), 22);
            y.frame(2, 2);
            y.sound(1, 1);
            t.due("102 by frame", y.frame(1, 2), FULL);
        });
        t.holds("==== 1", "SOUND i has FRAMES (0 on) from the MARK of its START to the one below the MARK of the START of the next one (of all TIMES, if it is the last).", () -> {
            // marks of 0, 5, 6, 12, 13, 14: 0, 1, 2, 3, 3, 4
            MouthFrames x = after("say b5,c1,d6,e1,f1");
            t.dueRow("SOUNDS of the FRAMES", frames(x, 0), 0, 1, 2, 4);
            t.dueRow("how many", sounds(x, 4), 1, 1, 1, 0, 1);
            // no drift: a FRAME each, though a SOUND is 3 by 2 of one: marks of 0, 3, 6, 9, 12: 0, 2, 3, 5, 6
            t.dueRow("without drift", sounds(after("frame 2/1", "say b3,c3,d3,e3"), 4), 2, 1, 2, 1);
            t.dueRow("the last of none", sounds(after("say b4,c1"), 4), 1, 0);
            t.dueRow("one alone", sounds(after("say b12"), 4), 3);
        });
    }

    private static void dueLent(String line, long[] frames, long[] lenders, long[] lost) {
        MouthFrames x = after("say " + line);
        t.dueRow(line + ", FRAMES", sounds(x, 4), frames);
        t.dueRow(line + ", by whom", sounds(x, 5), lenders);
        t.dueRow(line + ", LOST", sounds(x, 6), lost);
    }

    private static long[] row(long... items) {
        return items;
    }

    private static void lent() {
        t.holds("==== 1", "LENT: from the first SOUND to the last", () -> {
            // of 0, 1, 7, 8, 12: 0, 0, 2, 2, 3: the first takes what the third would take
            dueLent("a1,b6,a1,b4", row(1, 1, 0, 1), row(2, 0, 0, 0), row(0, 0, 1, 0));
            // of 0, 8, 9, 17, 18: 0, 2, 2, 4, 5 (4.5 and a half): the last has one of its own
            dueLent("b8,a1,b8,a1", row(1, 1, 2, 1), row(0, 1, 0, 0), row(0, 0, 0, 0));
        });
        t.holds("==== 1", "each that is CLOSED and has no FRAME gets one", () -> {
            dueLent("b8,a4,b8", row(2, 1, 2), row(0, 0, 0), row(0, 0, 0));
            dueLent("b8,c1,b8", row(2, 0, 2), row(0, 0, 0), row(0, 0, 0));
            dueLent("b12,i1,b12", row(2, 1, 3), row(0, 1, 0), row(0, 0, 0));
            MouthFrames x = after("say b8,c1,b8");
            x.shape(2, 0, 3);
            t.dueRow("closed then", sounds(x, 4), 1, 1, 2);
        });
        t.holds("==== 1", "the last one of the SOUND next ahead of it, if that has two FRAMES or more by then", () -> {
            dueLent("b8,a1", row(1, 1), row(0, 1), row(0, 0));
            dueLent("b12,a1", row(2, 1), row(0, 1), row(0, 0));
            dueLent("b4,a1", row(1, 0), row(0, 0), row(0, 1));
            t.dueRow("the last one", frames(after("say c4,b8,a1,b12"), 0), 0, 1, 2, 3, 3, 3);
            // the one behind has more, but the one ahead is asked first: of 0, 8, 9, 21: 0, 2, 2, 5
            dueLent("b8,a1,b12", row(1, 1, 3), row(0, 1, 0), row(0, 0, 0));
            // of 0, 7, 8, 9, 10: 0, 2, 2, 2, 3: what the second got is its only one, so the third has it not
            dueLent("b7,a1,i1,b1", row(1, 1, 0, 1), row(0, 1, 0, 0), row(0, 0, 1, 0));
        });
        t.holds("==== 1", "else the first one of the SOUND next behind it, if that has two or more by then", () -> {
            // of 0, 4, 5, 13: 0, 1, 1, 3
            dueLent("b4,a1,b8", row(1, 1, 1), row(0, 2, 0), row(0, 0, 0));
            // of 0, 4, 5, 17: 0, 1, 1, 4
            dueLent("b4,a1,b12", row(1, 1, 2), row(0, 2, 0), row(0, 0, 0));
            // of 0, 1, 6: 0, 0, 2; of 0, 1, 5: 0, 0, 1
            dueLent("a1,b5", row(1, 1), row(2, 0), row(0, 0));
            dueLent("a1,b4", row(0, 1), row(0, 0), row(1, 0));
            t.dueRow("the first one", frames(after("say b4,a1,c12,b4"), 0), 0, 1, 2, 2, 3);
            // what is lent away is away: of 0, 1, 6, 7, 8: 0, 0, 2, 2, 2
            dueLent("a1,b5,i1,a1", row(1, 1, 0, 0), row(2, 0, 0, 0), row(0, 0, 1, 1));
        });
        t.holds("==== 1", "If none lends, it is LOST.", () -> {
            dueLent("a1", row(0), row(0), row(1));
            dueLent("b4,a1,b4", row(1, 0, 1), row(0, 0, 0), row(0, 1, 0));
            // of 0, 1, 2, 9: 0, 0, 1, 2: the second has one FRAME and lends none
            dueLent("a1,c1,b7", row(0, 1, 1), row(0, 0, 0), row(1, 0, 0));
            // the next but one isn't asked: of 0, 7, 8, 9, 10: 0, 2, 2, 2, 3
            dueLent("b7,c1,a1,d1", row(2, 0, 0, 1), row(0, 0, 0, 0), row(0, 0, 1, 0));
            t.due("how many", after("say b4,a1,b4,i1").count(4), 1);
        });
    }

    private static void tellCalls() {
        t.holds("1", "MouthFrames(): As told.", () -> {
            MouthFrames x = new MouthFrames();
            long[] want = {0, 0, 0, 0, 0, 0, 0, NONE, 1, 0, 0};
            for (int k = 0; k < want.length; k++) t.due("count(" + k + ")", x.count(k), want[k]);
            for (int s = 0; s < 4; s++) t.due("drop(" + s + ")", x.drop(s), NULL);
            t.due("undo()", x.undo(), NONE);
            t.due("restore()", x.restore(), NONE);
            t.due("guess(0)", x.guess(0), NONE);
            t.due("seed(0)", x.seed(0), 1);
            t.due("read()", x.read(), -20);
            MouthFrames y = new MouthFrames();
            x.shape(1, 1, 1);
            x.sound(1, 4);
            t.due("another one's SHAPE", y.told(1, 3), 11);
            t.due("another one's LINE", y.count(0), 0);
        });
        t.holds("2", "OPEN, WIDE of a SHAPE become these: what they were: 13 times OPEN, and WIDE, together. BAD; NOT: it is so.", () -> {
            MouthFrames x = new MouthFrames();
            t.due("it is so at first", x.shape(0, 0, 12), NOT);
            t.due("another OPEN", x.shape(0, 12, 12), 12);
            t.due("another WIDE", x.shape(0, 12, 0), 168);
            t.due("both", x.shape(0, 0, 0), 156);
            t.due("from 0, 0", x.shape(0, 1, 0), 0);
            t.due("the answer 0 is known", x.count(10), 4);
            t.due("it is so", x.shape(0, 1, 0), NOT);
            t.due("so of another SHAPE", x.shape(1, 1, 11), NOT);
        });
        t.holds("3", "SHAPE, PULL of a SIGN become these: what they were: 6 times the SHAPE, and PULL, together. BAD; NOT: it is so.", () -> {
            MouthFrames x = new MouthFrames();
            t.due("it is so at first", x.sign(11, 3, 1), NOT);
            t.due("another PULL", x.sign(11, 3, 5), 19);
            t.due("another SHAPE", x.sign(11, 7, 5), 23);
            t.due("both", x.sign(11, 0, 0), 47);
            t.due("from 0, 0", x.sign(11, 0, 1), 0);
            t.due("the answer 0 is known", x.count(10), 4);
            t.due("it is so", x.sign(11, 0, 1), NOT);
            for (int v : new int[] {-1, 8, MIN, MAX}) t.due("SHAPE " + v, x.sign(11, v, 1), BAD);
        });
        t.holds("4", "A SOUND more, the last one: its number. BAD; FULL: 12 SOUNDS, or 101 FRAMES.", () -> {
            MouthFrames x = new MouthFrames();
            t.due("the first", x.sound(3, 2), 0);
            t.due("the answer 0 is known", x.count(10), 1);
            t.due("the same one more", x.sound(3, 2), 1);
            for (int i = 2; i < 12; i++) x.sound(5, 1);
            t.due("12 SOUNDS, few FRAMES", x.sound(5, 1), FULL);
            t.due("9 SOUNDS, 101 FRAMES", hundred().sound(5, 1), FULL);
            MouthFrames y = hundred();
            y.frame(2, 1);
            t.due("9 SOUNDS, 56 FRAMES", y.sound(5, 12), 9);
        });
        t.holds("5", "A SOUND is out: how many are left. BAD.", () -> {
            MouthFrames x = after("say b1,c2,d3,e4");
            for (int i : new int[] {-1, 4, MIN, MAX}) t.due("out " + i, x.out(i), BAD);
            t.due("the first", x.out(0), 3);
            t.dueRow("left", sounds(x, 0), 2, 3, 4);
            t.due("the last", x.out(2), 2);
            t.dueRow("left then", sounds(x, 1), 2, 3);
            x.out(1);
            t.due("the only one", x.out(0), 0);
            t.due("the answer 0 is known", x.count(10), 5);
            t.due("of none", x.out(0), BAD);
        });
        t.holds("6", "A FRAME is a by b long: what it was: 10 times a, and b, together. BAD; NOT: it is so; FULL: 101 FRAMES.", () -> {
            MouthFrames x = new MouthFrames();
            t.due("another b", x.frame(4, 2), 41);
            t.due("the same length isn't so", x.frame(2, 1), 42);
            t.due("it is so", x.frame(2, 1), NOT);
            t.due("two figures of a", x.frame(12, 1), 21);
            t.due("back", x.frame(2, 1), 121);
            MouthFrames y = hundred();
            t.due("it is so with 100 FRAMES", y.frame(1, 1), NOT);
            t.due("more than 100", y.frame(1, 2), FULL);
            t.due("the FRAME stays", y.frame(1, 1), NOT);
        });
        t.holds("7", "WINDOW becomes w: what it was. BAD; NOT: it is so.", () -> {
            MouthFrames x = new MouthFrames();
            t.due("it is so at first", x.window(1), NOT);
            for (int w : new int[] {-1, 4, MIN, MAX}) t.due("window " + w, x.window(w), BAD);
            t.due("0", x.window(0), 1);
            t.due("3", x.window(3), 0);
            t.due("the answer 0 is known", x.count(10), 2);
            t.due("it is so", x.window(3), NOT);
        });
    }

    private static void askCalls() {
        t.holds("8", "Of a SIGN: 0 SHAPE, 1 PULL, 2 OPEN, 3 WIDE of its SHAPE, 4 whether it is CLOSED (1, 0). BAD.", () -> {
            MouthFrames x = new MouthFrames();
            x.shape(0, 0, 7);
            x.sign(11, 0, 5);
            long[] want = {0, 5, 0, 7, 1};
            for (int k = 0; k < 5; k++) t.due("told(11, " + k + ")", x.told(11, k), want[k]);
            for (int k : new int[] {-1, 5, MIN, MAX}) t.due("told(11, " + k + ")", x.told(11, k), BAD);
        });
        t.holds("9", "Of a SOUND: 0 SIGN, 1 TIME, 2 START", () -> {
            MouthFrames x = after("say a12,l12,b12,c12,d12,e12,f12,g12,h12,b12,c12,l1");
            long[] first = {0, 12, 0};
            long[] last = {11, 1, 132};
            for (int k = 0; k < 3; k++) t.due("the first, " + k, x.sounds(0, k), first[k]);
            for (int k = 0; k < 3; k++) t.due("the last, " + k, x.sounds(11, k), last[k]);
            for (int k = 0; k < 3; k++) t.due("behind the last, " + k, x.sounds(12, k), BAD);
        });
        t.holds("9", "3 its first FRAME, as LENT (of none: how many FRAMES those ahead of it have)", () -> {
            // of 0, 1, 5, 6, 14, 15: 0, 0, 1, 2, 4, 4
            MouthFrames x = after("say c1,b4,d1,b8,e1");
            t.dueRow("of none: first, last", sounds(x, 3), 0, 0, 1, 2, 4);
            t.dueRow("lent ahead", sounds(after("say b8,a1,b8"), 3), 0, 1, 2);
            t.dueRow("lent behind", sounds(after("say b4,a1,b8"), 3), 0, 1, 2);
            t.dueRow("lent to the first", sounds(after("say a1,b5"), 3), 0, 1);
            t.dueRow("lost at the end", sounds(after("say b4,a1"), 3), 0, 1);
        });
        t.holds("9", "4 how many FRAMES, as LENT, 5 by whom it is LENT one (1 ahead, 2 behind, 0 none), 6 whether it's LOST (1, 0). BAD.", () -> {
            MouthFrames x = after("say b8,a1,b4,i1");
            // of 0, 8, 9, 13, 14: 0, 2, 2, 3, 4
            t.dueRow("FRAMES", sounds(x, 4), 1, 1, 1, 1);
            t.dueRow("by whom", sounds(x, 5), 0, 1, 0, 0);
            t.dueRow("LOST", sounds(x, 6), 0, 0, 0, 0);
            for (int i : new int[] {-1, 4, MIN, MAX}) t.due("sounds " + i, x.sounds(i, 0), BAD);
            for (int k : new int[] {-1, 7, MIN, MAX}) t.due("what " + k, x.sounds(0, k), BAD);
        });
        t.holds("10", "Of FRAME f: 0 its SOUND, 1 the SHAPE of that. BAD.", () -> {
            MouthFrames x = hundred();
            t.due("the first", x.at(0, 0), 0);
            t.due("the last", x.at(99, 0), 8);
            t.due("its SHAPE", x.at(99, 1), 2);
            for (int f : new int[] {-1, 100, MIN, MAX}) t.due("at " + f, x.at(f, 0), BAD);
            for (int k : new int[] {-1, 2, MIN, MAX}) t.due("what " + k, x.at(0, k), BAD);
            t.due("of none", new MouthFrames().at(0, 0), BAD);
            t.due("of a SOUND without FRAME", after("say b1").at(0, 0), BAD);
            t.due("a lent one", after("say b8,i1,b8").at(1, 0), 1);
            t.due("the SHAPE of SIGN 8", after("say b8,i1,b8").at(1, 1), 0);
        });
    }

    private static void counts() {
        t.holds("11", "0 SOUNDS, 1 FRAMES, 2 all TIMES together", () -> {
            MouthFrames x = new MouthFrames();
            for (int k = 0; k < 3; k++) t.due("count(" + k + ") of nothing", x.count(k), 0);
            x = after("say b12,c12,d12,e12,f12,g12,h12,b12,c12,d12,e12,f12");
            t.due("SOUNDS", x.count(0), 12);
            t.due("FRAMES", x.count(1), 36);
            t.due("all TIMES", x.count(2), 144);
            t.due("TIMES without FRAME", after("say b1").count(2), 1);
            t.due("all TIMES of 100 FRAMES", hundred().count(2), 100);
        });
        t.holds("11", "3 SOUNDS without FRAME, as LENT, 4 those that are LOST", () -> {
            MouthFrames x = after("say b8,a1,b8");
            t.due("lent: none without", x.count(3), 0);
            t.due("lent: none lost", x.count(4), 0);
            // of 0, 4, 5, 9, 10, 11: 0, 1, 1, 2, 3, 3
            x = after("say b4,a1,b4,c1,d1");
            t.due("lost and open ones without", x.count(3), 2);
            t.due("lost alone", x.count(4), 1);
        });
        t.holds("==== 2", "A HOLD: FRAMES next to each other whose SOUNDS have the same SHAPE, as many as there are.", () -> {
            MouthFrames x = after("frame 1/1", "say b1,j2,b1,c1,b1,k1");
            t.due("by SHAPES, not SIGNS", x.count(5), 4);
            t.due("as many as there are", x.count(6), 4);
            t.due("one FRAME is a HOLD", after("say b4").count(5), 1);
            x.sign(2, 1, 1);
            t.due("a SHAPE told", x.count(5), 2);
            x = hundred();
            t.due("of 9 SOUNDS", x.count(5), 9);
            for (int s = 2; s < 8; s++) x.sign(s, 1, 1);
            t.due("all are one", x.count(5), 1);
            t.due("all 100", x.count(6), 100);
            t.due("from 0", x.count(7), 0);
        });
        t.holds("11", "6 FRAMES of the longest HOLD, 7 the first FRAME of the first longest one (NONE: no FRAME)", () -> {
            MouthFrames x = after("frame 1/1", "say b1,c2,d1,e2,f1");
            t.due("the longest", x.count(6), 2);
            t.due("the first of two", x.count(7), 1);
            x = after("frame 1/1", "say b1,c2,d3");
            t.due("the last one", x.count(7), 3);
            t.due("its FRAMES", x.count(6), 3);
            t.due("no SOUND", new MouthFrames().count(7), NONE);
            t.due("no FRAME", after("say b1").count(7), NONE);
            t.due("no FRAME, no HOLD", after("say b1").count(5), 0);
            t.due("no FRAME, no longest", after("say b1").count(6), 0);
        });
        t.holds("11", "8 WINDOW, 9 WORDS, 10 what may be UNDONE. BAD.", () -> {
            MouthFrames x = after("word 1:a", "window 3");
            t.due("WINDOW", x.count(8), 3);
            t.due("WORDS", x.count(9), 1);
            t.due("what may be UNDONE", x.count(10), 2);
            for (int k : new int[] {-1, 11, MIN, MAX}) t.due("count " + k, x.count(k), BAD);
        });
    }

    public static void main(String[] args) {
        signs();
        line();
        marks();
        lent();
        tellCalls();
        askCalls();
        counts();
        t.end(args);
    }
}
