/** For each promise: ordinary calls, the edges that the document names, wrong calls. Answers worked out by hand. */
public final class PromisesTest {
    private static final int BAD = -1, NOT = -2, FULL = -3, NONE = -4, NULL = -11, CAST = -12, INDEX = -13, SIZE = -14;
    private static final int[] FAR = {Integer.MIN_VALUE, Integer.MAX_VALUE};
    private static int wrong = 0;
    private static int promise = 0;

    private static void due(String call, long got, long want) {
        if (got != want) {
            wrong++;
            System.out.println("promise " + promise + ": " + call + " answered " + got + ", due is " + want);
        }
    }

    private static int text(MouthFrames x, String text) {
        for (char c : text.toCharArray()) x.type(c);
        return x.read();
    }

    /** The text's answer is due, too. */
    private static MouthFrames after(String... texts) {
        MouthFrames x = new MouthFrames();
        for (String t : texts) {
            if (text(x, t) < 0) due("text '" + t + "'", -1, 0);
        }
        return x;
    }

    private static void dueRow(String call, long[] got, long... want) {
        for (int i = 0; i < want.length; i++) due(call + " of " + i, got[i], want[i]);
        due(call + " rows", got.length, want.length);
    }

    private static long[] sounds(MouthFrames x, int what) {
        long[] row = new long[x.count(0)];
        for (int i = 0; i < row.length; i++) row[i] = x.sounds(i, what);
        return row;
    }

    private static long[] frames(MouthFrames x, int what) {
        long[] row = new long[x.count(1)];
        for (int f = 0; f < row.length; f++) row[f] = x.at(f, what);
        return row;
    }

    private static long[] words(MouthFrames x, int what) {
        long[] row = new long[x.count(9)];
        for (int j = 0; j < row.length; j++) row[j] = x.word(j, what);
        return row;
    }

    private static void dueFraction(String call, long above, long below, long wantAbove, long wantBelow) {
        due(call + ", above", above, wantAbove);
        due(call + ", below", below, wantBelow);
    }

    private static void aNewObject() {
        MouthFrames x = new MouthFrames();
        for (int s = 0; s < 12; s++) {
            due("told(" + s + ", 0)", x.told(s, 0), s % 8);
            due("told(" + s + ", 1)", x.told(s, 1), 1);
            due("told(" + s + ", 2)", x.told(s, 2), s % 8);
            due("told(" + s + ", 3)", x.told(s, 3), 12 - s % 8);
        }
        long[] counts = {0, 0, 0, 0, 0, 0, 0, NONE, 1, 0, 0};
        for (int k = 0; k < counts.length; k++) due("count(" + k + ")", x.count(k), counts[k]);
        due("frame(4, 1)", x.frame(4, 1), NOT);
        due("window(1)", x.window(1), NOT);
        due("seed(1)", x.seed(1), 1);
        for (int t = 0; t < 4; t++) due("drop(" + t + ")", x.drop(t), NULL);
        due("undo()", x.undo(), NONE);
        due("restore()", x.restore(), NONE);
        due("type(32)", x.type(32), 1);
    }

    private static void shapes() {
        MouthFrames x = new MouthFrames();
        due("shape(3, 5, 7)", x.shape(3, 5, 7), 13 * 3 + 9);
        due("shape(3, 5, 7) again", x.shape(3, 5, 7), NOT);
        due("shape(3, 5, 8)", x.shape(3, 5, 8), 13 * 5 + 7);
        due("shape(3, 4, 8)", x.shape(3, 4, 8), 13 * 5 + 8);
        due("told(11, 2)", x.told(11, 2), 4);
        due("told(3, 3)", x.told(3, 3), 8);
        due("told(4, 2)", x.told(4, 2), 4);
        due("shape(7, 12, 12)", x.shape(7, 12, 12), 13 * 7 + 5);
        due("shape(7, 0, 0)", x.shape(7, 0, 0), 13 * 12 + 12);
        due("shape(0, 12, 0)", x.shape(0, 12, 0), 12);
        int[][] bad = {{-1, 1, 1}, {8, 1, 1}, {0, -1, 1}, {0, 13, 1}, {0, 1, -1}, {0, 1, 13}};
        for (int[] c : bad) due("shape " + c[0] + " " + c[1] + " " + c[2], x.shape(c[0], c[1], c[2]), BAD);
        for (int v : FAR) due("shape " + v, x.shape(v, v, v), BAD);
        due("count(10)", x.count(10), 6);
    }

    private static void signs() {
        MouthFrames x = new MouthFrames();
        due("sign(11, 5, 4)", x.sign(11, 5, 4), 6 * 3 + 1);
        due("sign(11, 5, 4) again", x.sign(11, 5, 4), NOT);
        due("sign(11, 5, 0)", x.sign(11, 5, 0), 6 * 5 + 4);
        due("sign(11, 7, 0)", x.sign(11, 7, 0), 6 * 5);
        due("told(11, 0)", x.told(11, 0), 7);
        due("told(11, 1)", x.told(11, 1), 0);
        due("told(3, 0)", x.told(3, 0), 3);
        due("sign(0, 0, 5)", x.sign(0, 0, 5), 1);
        int[][] bad = {{-1, 1, 1}, {12, 1, 1}, {0, -1, 1}, {0, 8, 1}, {0, 1, -1}, {0, 1, 6}};
        for (int[] c : bad) due("sign " + c[0] + " " + c[1] + " " + c[2], x.sign(c[0], c[1], c[2]), BAD);
        for (int v : FAR) due("sign " + v, x.sign(v, v, v), BAD);
        due("count(10)", x.count(10), 4);
    }

    private static void soundMore() {
        MouthFrames x = new MouthFrames();
        for (int i = 0; i < 12; i++) due("sound(" + i + ", " + (12 - i) + ")", x.sound(i, 12 - i), i);
        due("a 13th sound", x.sound(0, 1), FULL);
        due("a wrong 13th sound", x.sound(12, 1), BAD);
        due("count(0)", x.count(0), 12);
        dueRow("sounds(.., 0)", sounds(x, 0), 0, 1, 2, 3, 4, 5, 6, 7, 8, 9, 10, 11);
        dueRow("sounds(.., 1)", sounds(x, 1), 12, 11, 10, 9, 8, 7, 6, 5, 4, 3, 2, 1);
        MouthFrames y = new MouthFrames();
        int[][] bad = {{-1, 1}, {12, 1}, {0, 0}, {0, 13}, {0, -1}};
        for (int[] c : bad) due("sound " + c[0] + " " + c[1], y.sound(c[0], c[1]), BAD);
        for (int v : FAR) due("sound " + v, y.sound(v, v), BAD);
        y.frame(1, 2);
        for (int i = 0; i < 4; i++) y.sound(1, 12);
        due("102 frames", y.sound(1, 3), FULL);
        due("count(1) before", y.count(1), 96);
        due("100 frames", y.sound(1, 2), 4);
        due("count(1)", y.count(1), 100);
        due("102 frames again", y.sound(1, 1), FULL);
        due("count(0)", y.count(0), 5);
    }

    private static void soundOut() {
        MouthFrames x = after("say a1,b2,c3,d4");
        due("out(4)", x.out(4), BAD);
        due("out(-1)", x.out(-1), BAD);
        for (int v : FAR) due("out " + v, x.out(v), BAD);
        due("out(1)", x.out(1), 3);
        dueRow("sounds(.., 0)", sounds(x, 0), 0, 2, 3);
        dueRow("sounds(.., 1)", sounds(x, 1), 1, 3, 4);
        due("out(2)", x.out(2), 2);
        due("out(0)", x.out(0), 1);
        dueRow("sounds(.., 0) of one", sounds(x, 0), 2);
        due("out(0)", x.out(0), 0);
        due("out(0) of none", x.out(0), BAD);
    }

    private static void frameTold() {
        MouthFrames x = new MouthFrames();
        due("frame(8, 2)", x.frame(8, 2), 41);
        due("frame(8, 2) again", x.frame(8, 2), NOT);
        due("frame(4, 1), of the same length", x.frame(4, 1), 82);
        due("frame(12, 1)", x.frame(12, 1), 41);
        due("frame(1, 1)", x.frame(1, 1), 121);
        int[][] bad = {{0, 1}, {13, 1}, {1, 0}, {1, 3}, {-1, -1}};
        for (int[] c : bad) due("frame " + c[0] + " " + c[1], x.frame(c[0], c[1]), BAD);
        for (int v : FAR) due("frame " + v, x.frame(v, v), BAD);
        for (int i = 0; i < 4; i++) x.sound(1, 12);
        x.sound(1, 2);
        due("frame(1, 2) of 100", x.frame(1, 2), 11);
        due("frame(3, 2)", x.frame(3, 2), 12);
        x.sound(1, 1);
        due("frame(1, 2) of 102", x.frame(1, 2), FULL);
        due("frame stays", x.frame(3, 2), NOT);
        due("frame(2, 2)", x.frame(2, 2), 32);
        due("count(1)", x.count(1), 51);
    }

    private static void windowTold() {
        MouthFrames x = new MouthFrames();
        due("window(0)", x.window(0), 1);
        due("window(0) again", x.window(0), NOT);
        due("window(3)", x.window(3), 0);
        due("count(8)", x.count(8), 3);
        due("window(2)", x.window(2), 3);
        due("window(4)", x.window(4), BAD);
        due("window(-1)", x.window(-1), BAD);
        for (int v : FAR) due("window " + v, x.window(v), BAD);
        due("count(8)", x.count(8), 2);
    }

    private static void signAsked() {
        MouthFrames x = new MouthFrames();
        x.shape(2, 0, 5);
        x.sign(10, 2, 3);
        long[] want = {2, 3, 0, 5, 1};
        for (int k = 0; k < 5; k++) due("told(10, " + k + ")", x.told(10, k), want[k]);
        due("told(2, 4)", x.told(2, 4), 1);
        due("told(3, 4)", x.told(3, 4), 0);
        due("told(8, 4)", x.told(8, 4), 1);
        due("told(12, 0)", x.told(12, 0), BAD);
        due("told(-1, 0)", x.told(-1, 0), BAD);
        due("told(0, -1)", x.told(0, -1), BAD);
        due("told(0, 5)", x.told(0, 5), BAD);
        for (int v : FAR) due("told " + v, x.told(v, v), BAD);
    }

    private static void soundAsked() {
        // marks at 4 by 1: of 0, 8, 9, 17: 0, 2, 2, 4
        MouthFrames x = after("say b8,a1,b8");
        dueRow("starts", sounds(x, 2), 0, 8, 9);
        dueRow("first, lent ahead", sounds(x, 3), 0, 1, 2);
        dueRow("frames, lent ahead", sounds(x, 4), 1, 1, 2);
        dueRow("by whom, ahead", sounds(x, 5), 0, 1, 0);
        dueRow("lost, ahead", sounds(x, 6), 0, 0, 0);
        // of 0, 4, 5, 13: 0, 1, 1, 3
        x = after("say b4,a1,b8");
        dueRow("first, lent behind", sounds(x, 3), 0, 1, 2);
        dueRow("frames, lent behind", sounds(x, 4), 1, 1, 1);
        dueRow("by whom, behind", sounds(x, 5), 0, 2, 0);
        // of 0, 4, 5, 9: 0, 1, 1, 2
        x = after("say b4,a1,b4");
        dueRow("first, lost", sounds(x, 3), 0, 1, 1);
        dueRow("frames, lost", sounds(x, 4), 1, 0, 1);
        dueRow("by whom, lost", sounds(x, 5), 0, 0, 0);
        dueRow("lost", sounds(x, 6), 0, 1, 0);
        // of 0, 1, 9: 0, 0, 2: none ahead of the first; none behind the last (of 0, 9, 10: 0, 2, 3; of 0, 8, 9: 0, 2, 2)
        x = after("say i1,b8");
        dueRow("lent to the first", sounds(x, 5), 2, 0);
        x = after("say b8,a1");
        dueRow("lent to the last", sounds(x, 5), 0, 1);
        // an open one without a frame is neither lent one nor lost
        x = after("say b8,c1,b8");
        dueRow("an open one", sounds(x, 4), 2, 0, 2);
        dueRow("an open one's lender", sounds(x, 5), 0, 0, 0);
        dueRow("an open one isn't lost", sounds(x, 6), 0, 0, 0);
        // of 0, 1, 9, 10, 11: 0, 0, 2, 3, 3: what the first has taken the third can't have
        x = after("say a1,b6,a1,b4");
        // of 0, 1, 7, 8, 12: 0, 0, 2, 2, 3
        dueRow("frames by then", sounds(x, 4), 1, 1, 0, 1);
        dueRow("lenders by then", sounds(x, 5), 2, 0, 0, 0);
        dueRow("lost by then", sounds(x, 6), 0, 0, 1, 0);
        int[][] bad = {{-1, 0}, {4, 0}, {0, -1}, {0, 7}};
        for (int[] c : bad) due("sounds " + c[0] + " " + c[1], x.sounds(c[0], c[1]), BAD);
        for (int v : FAR) due("sounds " + v, x.sounds(v, v), BAD);
        // a half is rounded up: of 0, 2, 4, 6: 0, 1, 1, 2
        x = after("say b2,c2,d2");
        dueRow("halves", sounds(x, 4), 1, 0, 1);
        // 9 by 2: of 0, 2, 4, 6, 8: 0, 0, 1, 1, 2
        x = after("frame 9/2", "say b2,c2,d2,e2");
        dueRow("9 by 2", sounds(x, 4), 0, 1, 0, 1);
    }

    private static void frameAsked() {
        MouthFrames x = after("say b8,a1,j8");
        dueRow("at(.., 0)", frames(x, 0), 0, 1, 2, 2);
        dueRow("at(.., 1)", frames(x, 1), 1, 0, 1, 1);
        due("at(4, 0)", x.at(4, 0), BAD);
        due("at(-1, 0)", x.at(-1, 0), BAD);
        due("at(0, 2)", x.at(0, 2), BAD);
        due("at(0, -1)", x.at(0, -1), BAD);
        for (int v : FAR) due("at " + v, x.at(v, v), BAD);
        MouthFrames y = after("frame 1/2", "say b12,b12,b12,b12,c2");
        due("at(99, 0)", y.at(99, 0), 4);
        due("at(100, 0)", y.at(100, 0), BAD);
    }

    private static void counts() {
        // at 4 by 1 of 0, 4, 5, 9, 17, 18, 19: 0, 1, 1, 2, 4, 5, 5
        MouthFrames x = after("say b4,a1,b4,c8,k1,d1");
        dueRow("frames", sounds(x, 4), 1, 0, 1, 2, 1, 0);
        long[] want = {6, 5, 19, 2, 1, 2, 3, 2, 1, 0, 1};
        for (int k = 0; k < want.length; k++) due("count(" + k + ")", x.count(k), want[k]);
        x.window(3);
        text(x, "word 1:a");
        due("count(8)", x.count(8), 3);
        due("count(9)", x.count(9), 1);
        due("count(10)", x.count(10), 3);
        due("count(-1)", x.count(-1), BAD);
        due("count(11)", x.count(11), BAD);
        for (int v : FAR) due("count " + v, x.count(v), BAD);
        // two longest ones: the first counts; SHAPES, not SIGNS, make a HOLD
        MouthFrames y = after("frame 1/1", "say b1,c1,k1,d1,d1,a1");
        due("holds", y.count(5), 4);
        due("longest", y.count(6), 2);
        due("first longest", y.count(7), 1);
        // a line without a frame
        MouthFrames z = after("say b1");
        due("no frame", z.count(1), 0);
        due("no hold", z.count(5), 0);
        due("none longest", z.count(6), 0);
        due("no first longest", z.count(7), NONE);
        due("without", z.count(3), 1);
        due("not closed, so not lost", z.count(4), 0);
    }

    private static void pulledAsked() {
        MouthFrames x = after("say b1,c1,f1,a1,e1");
        dueFraction("first, open", x.pulled(0, 0, 0), x.pulled(0, 0, 1), 5, 4);
        dueFraction("second, open", x.pulled(1, 0, 0), x.pulled(1, 0, 1), 12, 5);
        dueFraction("second, wide", x.pulled(1, 1, 0), x.pulled(1, 1, 1), 48, 5);
        dueFraction("closed, open", x.pulled(3, 0, 0), x.pulled(3, 0, 1), 0, 1);
        dueFraction("closed, wide", x.pulled(3, 1, 0), x.pulled(3, 1, 1), 51, 5);
        dueFraction("last, open", x.pulled(4, 0, 0), x.pulled(4, 0, 1), 3, 1);
        x.sign(1, 1, 5);
        x.sign(5, 5, 0);
        dueFraction("other pulls", x.pulled(1, 0, 0), x.pulled(1, 0, 1), 11, 8);
        dueFraction("alone's own pull", after("say f3").pulled(0, 0, 0), after("say f3").pulled(0, 0, 1), 5, 1);
        int[][] bad = {{-1, 0, 0}, {5, 0, 0}, {0, -1, 0}, {0, 2, 0}, {0, 0, -1}, {0, 0, 2}};
        for (int[] c : bad) due("pulled " + c[0] + " " + c[1] + " " + c[2], x.pulled(c[0], c[1], c[2]), BAD);
        for (int v : FAR) due("pulled " + v, x.pulled(v, v, v), BAD);
    }

    private static void smoothAsked() {
        // one frame each; pulled, open: b 5/4, c 12/5, f 17/5, a 0, e 3; wide: b 43/4, c 48/5, f 43/5, a 51/5, e 9
        MouthFrames x = after("frame 1/1", "say b1,c1,f1,a1,e1");
        dueFraction("at the start", x.smooth(0, 0, 0), x.smooth(0, 0, 1), 73, 40);
        dueFraction("within", x.smooth(1, 0, 0), x.smooth(1, 0, 1), 47, 20);
        dueFraction("next to a closed one", x.smooth(2, 0, 0), x.smooth(2, 0, 1), 29, 15);
        dueFraction("a closed one, open", x.smooth(3, 0, 0), x.smooth(3, 0, 1), 0, 1);
        dueFraction("a closed one, wide", x.smooth(3, 1, 0), x.smooth(3, 1, 1), 139, 15);
        dueFraction("at the end", x.smooth(4, 0, 0), x.smooth(4, 0, 1), 3, 2);
        x.window(0);
        dueFraction("by itself", x.smooth(1, 0, 0), x.smooth(1, 0, 1), 12, 5);
        x.window(3);
        dueFraction("by all but one", x.smooth(0, 0, 0), x.smooth(0, 0, 1), 141, 80);
        dueFraction("by all", x.smooth(2, 0, 0), x.smooth(2, 0, 1), 201, 100);
        // a SOUND of two FRAMES counts twice
        MouthFrames y = after("frame 1/1", "say b2,d1");
        dueFraction("twice", y.smooth(1, 0, 0), y.smooth(1, 0, 1), 11, 6);
        int[][] bad = {{-1, 0, 0}, {5, 0, 0}, {0, -1, 0}, {0, 2, 0}, {0, 0, -1}, {0, 0, 2}};
        for (int[] c : bad) due("smooth " + c[0] + " " + c[1] + " " + c[2], x.smooth(c[0], c[1], c[2]), BAD);
        for (int v : FAR) due("smooth " + v, x.smooth(v, v, v), BAD);
    }

    private static void jumpAsked() {
        // smooth, open: 73/40, 47/20, 29/15, 0, 3/2
        MouthFrames x = after("frame 1/1", "say b1,c1,f1,a1,e1");
        dueFraction("to the closed one", x.jump(0, 0), x.jump(0, 1), 29, 15);
        x.window(0);
        dueFraction("window 0", x.jump(0, 0), x.jump(0, 1), 17, 5);
        dueFraction("window 0, wide", x.jump(1, 0), x.jump(1, 1), 8, 5);
        dueFraction("one frame", after("say b4").jump(0, 0), after("say b4").jump(0, 1), 0, 1);
        dueFraction("no frame", after("say b1").jump(1, 0), after("say b1").jump(1, 1), 0, 1);
        dueFraction("upwards", after("frame 1/1", "say a1,h1").jump(0, 0), after("frame 1/1", "say a1,h1").jump(0, 1), 21, 8);
        int[][] bad = {{-1, 0}, {2, 0}, {0, -1}, {0, 2}};
        for (int[] c : bad) due("jump " + c[0] + " " + c[1], x.jump(c[0], c[1]), BAD);
        for (int v : FAR) due("jump " + v, x.jump(v, v), BAD);
    }

    private static void calmAsked() {
        // pulled, wide: b (33 + 5) / 4, h (15 + 11) / 4: by themselves 3 apart, by both none
        MouthFrames x = after("frame 1/1", "say b1,h1");
        dueFraction("pulled first", x.pulled(0, 1, 0), x.pulled(0, 1, 1), 19, 2);
        dueFraction("pulled second", x.pulled(1, 1, 0), x.pulled(1, 1, 1), 13, 2);
        due("calm(1, 3)", x.calm(1, 3), 0);
        due("calm(1, 2)", x.calm(1, 2), 1);
        due("calm(1, 0)", x.calm(1, 0), 1);
        due("the window stays", x.count(8), 1);
        MouthFrames y = after("frame 1/1", "say a1,h1");
        // by itself 21/4 apart, by both 21/8, as the closed one stays at 0
        due("calm(0, 2)", y.calm(0, 2), NONE);
        due("calm(0, 3)", y.calm(0, 3), 1);
        due("calm(0, 5)", y.calm(0, 5), 1);
        due("calm(0, 6)", y.calm(0, 6), 0);
        due("calm(0, 12)", y.calm(0, 12), 0);
        due("calm of nothing", new MouthFrames().calm(0, 0), 0);
        int[][] bad = {{-1, 0}, {2, 0}, {0, -1}, {0, 13}};
        for (int[] c : bad) due("calm " + c[0] + " " + c[1], y.calm(c[0], c[1]), BAD);
        for (int v : FAR) due("calm " + v, y.calm(v, v), BAD);
        MouthFrames z = after("frame 3/1", "say b6,h6");
        // b, b, h, h: by one 1 apart at most, by two less, by three none
        due("calm(1, 0), window 3", z.calm(1, 0), 3);
    }

    private static void offAsked() {
        MouthFrames x = after("say b3,c1,d12,e1");
        // starts 0, 3, 4, 16: marks 0, 1, 1, 4
        dueFraction("at 0", x.off(0, 0), x.off(0, 1), 0, 1);
        dueFraction("at 3", x.off(1, 0), x.off(1, 1), 1, 4);
        dueFraction("at 4", x.off(2, 0), x.off(2, 1), 0, 1);
        x.frame(4, 2);
        dueFraction("at 3 by 4/2", x.off(1, 0), x.off(1, 1), 1, 2);
        x.frame(12, 1);
        dueFraction("at 4 by 12/1", x.off(2, 0), x.off(2, 1), 1, 3);
        dueFraction("at 16 by 12/1", x.off(3, 0), x.off(3, 1), 1, 3);
        x.frame(5, 2);
        dueFraction("at 4 by 5/2", x.off(2, 0), x.off(2, 1), 2, 5);
        // ahead of what is LENT: a starts at 8, mark 2, though its FRAME is 1
        dueFraction("ahead of lent", after("say b8,a1,b8").off(1, 0), after("say b8,a1,b8").off(1, 1), 0, 1);
        int[][] bad = {{-1, 0}, {4, 0}, {0, -1}, {0, 2}};
        for (int[] c : bad) due("off " + c[0] + " " + c[1], x.off(c[0], c[1]), BAD);
        for (int v : FAR) due("off " + v, x.off(v, v), BAD);
    }

    private static void wordOut() {
        MouthFrames x = after("word 1:abc", "word 2:d", "word 3:ef");
        due("forget(3)", x.forget(3), BAD);
        due("forget(-1)", x.forget(-1), BAD);
        for (int v : FAR) due("forget " + v, x.forget(v), BAD);
        due("forget(0)", x.forget(0), 2);
        dueRow("weights", words(x, 0), 2, 3);
        dueRow("lengths", words(x, 1), 1, 2);
        due("letter(1, 1)", x.letter(1, 1), 5);
        due("letter(0, 1)", x.letter(0, 1), NONE);
        due("the same one more", text(x, "word 9:abc"), 3);
        due("forget(2)", x.forget(2), 2);
        due("forget(1)", x.forget(1), 1);
        due("forget(0)", x.forget(0), 0);
        due("forget(0) of none", x.forget(0), BAD);
    }

    private static void wordAsked() {
        // looks: ab 01, ij 01, aab 01, aba 010, ba 10, abbbaa 010
        MouthFrames x = after("word 5:ab", "word 3:ij", "word 9:aab", "word 1:aba", "word 2:ba", "word 4:abbbaa");
        dueRow("weights", words(x, 0), 5, 3, 9, 1, 2, 4);
        dueRow("signs", words(x, 1), 2, 2, 3, 3, 2, 6);
        dueRow("looks", words(x, 2), 2, 2, 2, 3, 2, 3);
        dueRow("alike", words(x, 3), 3, 3, 3, 2, 1, 2);
        dueRow("least alike", words(x, 4), 0, 0, 0, 3, 4, 3);
        x.sign(1, 0, 1);
        // b looks like a now: all of a, b are one SHAPE; ij is 01 still
        dueRow("looks then", words(x, 2), 1, 2, 1, 1, 1, 1);
        dueRow("alike then", words(x, 3), 5, 1, 5, 5, 5, 5);
        dueRow("least alike then", words(x, 4), 0, 1, 0, 0, 0, 0);
        int[][] bad = {{-1, 0}, {6, 0}, {0, -1}, {0, 5}};
        for (int[] c : bad) due("word " + c[0] + " " + c[1], x.word(c[0], c[1]), BAD);
        for (int v : FAR) due("word " + v, x.word(v, v), BAD);
    }

    private static void letterAsked() {
        MouthFrames x = after("word 1:abcdel", "word 2:k");
        long[] want = {0, 1, 2, 3, 4, 11};
        for (int k = 0; k < 6; k++) due("letter(0, " + k + ")", x.letter(0, k), want[k]);
        due("letter(0, 6)", x.letter(0, 6), NONE);
        due("letter(1, 0)", x.letter(1, 0), 10);
        due("letter(1, 1)", x.letter(1, 1), NONE);
        due("letter(1, far)", x.letter(1, Integer.MAX_VALUE), NONE);
        due("letter(0, -1)", x.letter(0, -1), BAD);
        due("letter(2, 0)", x.letter(2, 0), BAD);
        due("letter(-1, 0)", x.letter(-1, 0), BAD);
        for (int v : FAR) due("letter " + v, x.letter(v, v), BAD);
    }

    private static void guessAsked() {
        MouthFrames x = new MouthFrames();
        due("guess of none", x.guess(0), NONE);
        due("guess(2) of none", x.guess(2), BAD);
        due("guess(-1) of none", x.guess(-1), BAD);
        text(x, "word 4:ab");
        dueFraction("one word", x.guess(0), x.guess(1), 1, 1);
        text(x, "word 4:ij");
        dueFraction("two like ones", x.guess(0), x.guess(1), 1, 2);
        text(x, "word 9:aab");
        dueFraction("a greater one", x.guess(0), x.guess(1), 9, 17);
        text(x, "word 3:c");
        dueFraction("one of its own", x.guess(0), x.guess(1), 3, 5);
        for (int v : FAR) due("guess " + v, x.guess(v), BAD);
    }

    private static void typed() {
        MouthFrames x = new MouthFrames();
        due("type(31)", x.type(31), BAD);
        due("type(127)", x.type(127), BAD);
        for (int v : FAR) due("type " + v, x.type(v), BAD);
        due("type(126)", x.type(126), 1);
        for (int i = 2; i <= 90; i++) due("type(32)", x.type(32), i);
        due("type(32) of 90", x.type(32), FULL);
        due("type(31) of 90", x.type(31), BAD);
        due("read()", x.read(), -20);
        due("type(32) then", x.type(32), 1);
    }

    private static void faults() {
        Object[][] texts = {
            {"", 0}, {"   ", 3}, {" 3", 1}, {"  foo", 2}, {"Say a1", 0}, {"say", 3}, {"say  ", 5}, {"saya1", 0}, {"say1", 3},
            {"say a", 5}, {"say a0", 5}, {"say a00", 5}, {"say a13", 5}, {"say a99", 5}, {"say a123", 7}, {"say a012", 7},
            {"say a130", 5}, {"say a0 3", 5}, {"say a1 2", 7}, {"say a1b2", 6}, {"say a1,", 7}, {"say a1,,", 7}, {"say ,a1", 4},
            {"say m1", 4}, {"say a1,m1", 7}, {"say a 1 x", 8}, {"say A1", 4}, {"say a1;b1", 6}, {"say aa1", 5},
            {"say a1,a1,a1,a1,a1,a1,a1,a1,a1,a1,a1,a1,a1", 40}, {"say a1,a1,a1,a1,a1,a1,a1,a1,a1,a1,a1,a1,", 40},
            {"say a1,a1,a1,a1,a1,a1,a1,a1,a1,a1,a1,a1 a", 40},
            {"word", 4}, {"word 0:a", 5}, {"word 12:a", 6}, {"word a:a", 5}, {"word 1a", 6}, {"word 1:", 7}, {"word 1: ", 8},
            {"word 1:m", 7}, {"word 1:abm", 9}, {"word 1:abcdefg", 13}, {"word 1:abcdefm", 13}, {"word 1:ab c", 10},
            {"word 1:ab,c", 9}, {"word 1 1:a", 7}, {"words 1:a", 0},
            {"frame", 5}, {"frame 0/1", 6}, {"frame 13/1", 6}, {"frame 1 2/1", 8}, {"frame 123/1", 8}, {"frame 4", 7},
            {"frame 4/", 8}, {"frame 4/0", 8}, {"frame 4/3", 8}, {"frame 4/12", 9}, {"frame 4:1", 7}, {"frame 4/1,", 9},
            {"frame /1", 6}, {"window", 6}, {"window 4", 7}, {"window 03", 8}, {"window 1 1", 9}, {"windows 1", 0}, {"win dow 1", 0},
        };
        for (Object[] t : texts) {
            MouthFrames x = new MouthFrames();
            due("fault of '" + t[0] + "'", text(x, (String) t[0]), -20 - (int) t[1]);
            due("nothing told by '" + t[0] + "'", x.count(10), 0);
            due("tape empty after '" + t[0] + "'", x.type(32), 1);
        }
    }

    private static void texts() {
        MouthFrames x = new MouthFrames();
        due("say", text(x, "  say  a 3 ,b12,  l03  "), 3);
        dueRow("signs", sounds(x, 0), 0, 1, 11);
        dueRow("times", sounds(x, 1), 3, 12, 3);
        due("say again", text(x, "say c1"), 1);
        dueRow("signs then", sounds(x, 0), 2);
        due("tight", text(x, "say a1,a1,a1,a1,a1,a1,a1,a1,a1,a1,a1,a1"), 12);
        due("word", text(x, "word5:abc"), 1);
        due("word with blanks", text(x, " word 9 : l "), 2);
        due("the same word", text(x, "word 1:abc"), NOT);
        due("weight stays", x.word(0, 0), 5);
        due("a longer word", text(x, "word 1:abcd"), 3);
        due("a shorter word", text(x, "word 1:ab"), 4);
        due("as many letters", text(x, "word 1:abd"), 5);
        due("frame", text(x, "frame 12 / 2"), 41);
        due("frame again", text(x, "frame 12/2"), NOT);
        due("frame 03/1", text(x, "frame03/1"), 122);
        due("window", text(x, "window 0"), 1);
        due("window again", text(x, "window0"), NOT);
        for (int i = 0; i < 3; i++) text(x, "word 1:" + (char) ('d' + i));
        due("8 words", x.count(9), 8);
        due("a 9th word", text(x, "word 1:h"), FULL);
        due("the same word of 8", text(x, "word 1:d"), NOT);
        due("a fault of 8 words", text(x, "word 1:m"), -27);
        text(x, "frame 1/2");
        due("frame 1/2", text(x, "frame 1/2"), NOT);
        due("101 frames", text(x, "say b12,b12,b12,b12,b3"), FULL);
        due("the line stays", x.count(0), 12);
        due("100 frames", text(x, "say b12,b12,b12,b12,b2"), 5);
        text(x, "frame 2/2");
        text(x, "say b12,b12,b12,b12,b3");
        due("frame of 102", text(x, "frame 1/2"), FULL);
        due("tape after FULL", x.type(65), 1);
    }

    private static void drifts() {
        // of 1: 1103527590, 377401575, 662824084, 1147902781, 2035015474: x 16838, 5758, 10113, 17515, 31051
        MouthFrames x = new MouthFrames();
        due("drift(1)", x.drift(1), 0);
        // x 16838, left over by 8: 6; p 2104 left over by 12: 4; q 131 left over by 12: 11: frame(5, 2)
        due("frame(5, 2)", x.frame(5, 2), NOT);
        due("the draw", x.seed(1103527590), 1103527590);
        due("count(10)", x.count(10), 1);
        due("drift(1), second", x.drift(1), 0);
        // x 5758: 6; p 719: 11; q 44: 8: frame(12, 1)
        due("frame(12, 1)", x.frame(12, 1), NOT);
        due("drift(1), third", x.drift(1), 1);
        // x 10113: 1; p 1264: 4; q 79: 7: sound(4, 8)
        due("sign", x.sounds(0, 0), 4);
        due("time", x.sounds(0, 1), 8);
        due("drift(1), fourth", x.drift(1), 1);
        // x 17515: 3; p 2189: 5; q 136: 4; 8 left over by 6: 2: sign(5, 4, 2)
        due("told(5, 0)", x.told(5, 0), 4);
        due("told(5, 1)", x.told(5, 1), 2);
        due("drift(2) at once", new MouthFrames().drift(2), 0);
        due("drift(0)", x.drift(0), BAD);
        due("drift(41)", x.drift(41), BAD);
        for (int v : FAR) due("drift " + v, x.drift(v), BAD);
        due("count(10)", x.count(10), 4);
        x.drift(40);
        due("count(10) of many", x.count(10), 6);
        refusedTurns();
    }

    private static void refusedTurns() {
        // of the seed 0 the draw is 12345, x 0: sound(0, 1); of 12 SOUNDS it's refused, but it's a turn
        MouthFrames x = new MouthFrames();
        for (int i = 0; i < 12; i++) x.sound(1, 1);
        x.seed(0);
        x.restore();
        MouthFrames y = new MouthFrames();
        y.seed(0);
        due("a sound", y.drift(1), 1);
        due("refused", x.drift(1), 12);
        due("the draw goes on", x.seed(7), 12345);
        due("undone", x.undo(), 5);
        due("the draw as ahead", x.seed(7), 0);
        due("still 12", x.count(0), 12);
    }

    private static void undos() {
        MouthFrames x = new MouthFrames();
        due("none", x.undo(), NONE);
        x.shape(0, 3, 3);
        x.sign(0, 1, 1);
        x.sound(0, 4);
        x.out(0);
        x.frame(1, 1);
        x.window(2);
        due("six", x.count(10), 6);
        due("window", x.undo(), 5);
        due("window back", x.count(8), 1);
        due("frame", x.undo(), 4);
        due("frame back", x.frame(4, 1), NOT);
        due("out", x.undo(), 3);
        due("sound back", x.sounds(0, 1), 4);
        due("sound", x.undo(), 2);
        due("no sound", x.count(0), 0);
        due("sign", x.undo(), 1);
        due("sign back", x.told(0, 0), 0);
        due("shape", x.undo(), 0);
        due("shape back", x.told(0, 3), 12);
        due("none then", x.undo(), NONE);
        undosOfWordsAndTexts();
        undosOfSeven();
        whatIsNotUndone();
    }

    private static void undosOfWordsAndTexts() {
        MouthFrames x = after("word 1:a", "word 2:b", "say a1,b1", "say a1,b1", "frame 2/1", "window 0");
        due("window text", x.undo(), 5);
        due("window", x.count(8), 1);
        due("frame text", x.undo(), 4);
        due("frame", x.frame(4, 1), NOT);
        due("the same line is told, too", x.undo(), 3);
        due("line stays", x.count(0), 2);
        due("say text", x.undo(), 2);
        due("no line", x.count(0), 0);
        x.forget(0);
        due("forgot", x.word(0, 0), 2);
        due("forget undone", x.undo(), 2);
        due("known again", x.word(0, 0), 1);
        due("word undone", x.undo(), 1);
        due("one word", x.count(9), 1);
        due("first word undone", x.undo(), 0);
        due("no word", x.count(9), 0);
    }

    private static void undosOfSeven() {
        MouthFrames x = new MouthFrames();
        for (int i = 0; i < 7; i++) x.sound(i, 1);
        for (int i = 5; i >= 0; i--) due("undo of seven", x.undo(), i);
        due("the oldest lost", x.undo(), NONE);
        due("one sound", x.count(0), 1);
        due("the first", x.sounds(0, 0), 0);
        x.drift(3);
        due("turns", x.count(10), 3);
        due("one turn", x.undo(), 2);
        due("the draw of two turns", x.seed(5), 377401575);
        due("two turns", x.undo(), 1);
        due("the draw of one turn", x.seed(5), 1103527590);
    }

    /** What is refused is not known; the seed told since is lost; SHEETS, THE TAPE, the IMAGE stay. */
    private static void whatIsNotUndone() {
        MouthFrames x = new MouthFrames();
        x.shape(0, 0, 12);
        x.shape(9, 0, 12);
        x.sign(0, 0, 1);
        x.sound(0, 13);
        x.out(0);
        x.frame(4, 1);
        x.window(1);
        x.forget(0);
        text(x, "say");
        x.seed(9);
        x.image();
        due("nothing known", x.count(10), 0);
        x.window(2);
        x.seed(11);
        x.sheet(1, 2, 5);
        x.type(65);
        x.image();
        due("undo", x.undo(), 0);
        due("draw", x.seed(0), 9);
        due("tape", x.type(65), 2);
        due("restore", x.restore(), 1);
        due("window of the image", x.count(8), 2);
        due("sheet", x.drop(1), 5);
    }

    private static void seeds() {
        MouthFrames x = new MouthFrames();
        due("seed(5)", x.seed(5), 1);
        due("seed(-1)", x.seed(-1), BAD);
        due("seed(min)", x.seed(Integer.MIN_VALUE), BAD);
        due("seed(max)", x.seed(Integer.MAX_VALUE), 5);
        due("seed(0)", x.seed(0), Integer.MAX_VALUE);
        due("seed(0) again", x.seed(0), 0);
        due("not known", x.count(10), 0);
        x.seed(Integer.MAX_VALUE);
        x.drift(1);
        // 2147483647 is 1 less than 0 by 31 bits: 12345 less 1103515245
        due("the lowest 31 bits", x.seed(1), 12345L - 1103515245L + (1L << 31));
    }

    private static void images() {
        MouthFrames x = after("word 3:ab", "say b8,a1", "window 3");
        x.seed(77);
        due("image()", x.image(), 1);
        x.window(0);
        x.out(0);
        x.forget(0);
        x.shape(1, 9, 9);
        x.sign(1, 5, 5);
        x.frame(1, 1);
        x.seed(3);
        x.sheet(0, 0, 4);
        x.type(65);
        due("restore()", x.restore(), 1);
        due("window", x.count(8), 3);
        due("sounds", x.count(0), 2);
        due("words", x.count(9), 1);
        due("open", x.told(1, 2), 1);
        due("pull", x.told(1, 1), 1);
        due("frame", x.frame(4, 1), NOT);
        due("draw", x.seed(4), 77);
        due("undos", x.count(10), 3);
        due("sheet stays", x.drop(0), 4);
        due("tape stays", x.type(65), 2);
        due("undo then", x.undo(), 2);
        due("window then", x.count(8), 1);
        due("restore() again", x.restore(), 1);
        due("window again", x.count(8), 3);
        due("undos again", x.count(10), 3);
    }

    private static void restores() {
        MouthFrames x = new MouthFrames();
        due("none", x.restore(), NONE);
        x.window(2);
        due("image() one", x.image(), 1);
        x.window(3);
        due("image() two", x.image(), 1);
        x.window(0);
        due("restore()", x.restore(), 1);
        due("the later image", x.count(8), 3);
        due("known as then", x.count(10), 2);
        due("restore() again", x.restore(), 1);
        due("the later image still", x.count(8), 3);
        MouthFrames y = new MouthFrames();
        for (int i = 0; i < 8; i++) y.sound(i, 1);
        y.image();
        for (int i = 0; i < 6; i++) y.undo();
        due("all undone", y.undo(), NONE);
        due("restore()", y.restore(), 1);
        due("six again", y.count(10), 6);
        due("undo as then", y.undo(), 5);
        due("sounds as then", y.count(0), 7);
    }

    private static MouthFrames withItems(int lane, long... items) {
        MouthFrames x = after("word 5:ab", "word 3:ij", "word 1:c", "word 2:aba");
        x.sheet(0, lane, items.length);
        for (int i = 0; i < items.length; i++) x.item(0, lane, i, items[i]);
        return x;
    }

    private static void seens() {
        for (int lane = 0; lane < 4; lane++) {
            MouthFrames x = withItems(lane, 0, 0, 1, 1, 0, 2, 8, -1);
            due("seen of 0 0 1 1", x.seen(0, lane, 0, 4), 3);
            due("seen of 0 1", x.seen(0, lane, 1, 2), 3);
            due("seen of 0 0 1 1 0", x.seen(0, lane, 0, 5), 8);
            due("seen of 2", x.seen(0, lane, 5, 1), 4);
            due("seen of 1 0", x.seen(0, lane, 3, 2), 0);
            due("seen of 8", x.seen(0, lane, 5, 2), NOT);
            due("seen of -1", x.seen(0, lane, 7, 1), NOT);
        }
        MouthFrames x = withItems(2, 0, 0, 1, 1, 0, 2, 8, -1);
        due("seen up to the end", x.seen(0, 2, 2, 6), NOT);
        due("seen behind the end", x.seen(0, 2, 3, 6), INDEX);
        due("seen from -1", x.seen(0, 2, -1, 2), INDEX);
        due("seen from far", x.seen(0, 2, Integer.MAX_VALUE, 6), INDEX);
        due("seen of 0", x.seen(0, 2, 0, 0), BAD);
        due("seen of 7", x.seen(0, 2, 0, 7), BAD);
        due("seen of no sheet", x.seen(4, 2, 0, 1), BAD);
        due("seen of sheet -1", x.seen(-1, 2, 0, 1), BAD);
        due("seen of lane 4", x.seen(0, 4, 0, 1), BAD);
        due("seen of lane -1", x.seen(0, -1, 0, 1), BAD);
        due("seen of nothing", x.seen(1, 2, 0, 1), NULL);
        due("seen of another lane", x.seen(0, 1, 9, 1), CAST);
        due("BAD ahead of NULL", x.seen(1, 2, 0, 7), BAD);
        for (int v : FAR) due("seen " + v, x.seen(v, v, v, v), BAD);
    }

    private static void films() {
        MouthFrames x = withItems(1, 7, 7, 7, 7, 7);
        due("film of none", x.film(0, 1, 5), 0);
        due("film of none at 6", x.film(0, 1, 6), INDEX);
        due("film of none at -1", x.film(0, 1, -1), INDEX);
        text(x, "word 1:ib");
        // frames 1, 1 (lent), 2 come to items 1 .. 3: 7 1 1 2 7; LOOK 1 2 is that of bk
        text(x, "say b8,a1,b8");
        text(x, "word 1:bk");
        due("film", x.film(0, 1, 1), 3);
        due("what came", x.seen(0, 1, 1, 3), 1 << 5);
        text(x, "word 1:hb");
        text(x, "word 1:kh");
        due("item 0 stays", x.seen(0, 1, 0, 2), 1 << 6);
        due("item 4 stays", x.seen(0, 1, 3, 2), 1 << 7);
        due("film up to the end", x.film(0, 1, 2), 3);
        due("film behind the end", x.film(0, 1, 3), INDEX);
        due("nothing came", x.seen(0, 1, 3, 2), 1 << 5);
        due("film at -1", x.film(0, 1, -1), INDEX);
        for (int v : FAR) due("film at " + v, x.film(0, 1, v), INDEX);
        due("film to another lane", x.film(0, 0, 9), CAST);
        due("film to nothing", x.film(3, 1, 0), NULL);
        due("film to sheet 4", x.film(4, 1, 0), BAD);
        due("film to sheet -1", x.film(-1, 1, 0), BAD);
        due("film to lane 4", x.film(0, 4, 0), BAD);
        due("film to lane -1", x.film(0, -1, 0), BAD);
    }

    private static void sheets() {
        MouthFrames x = new MouthFrames();
        due("sheet(3, 3, 24)", x.sheet(3, 3, 24), 24);
        due("sheet(0, 0, 0)", x.sheet(0, 0, 0), 0);
        due("a row of none", x.item(0, 0, 0, 1), INDEX);
        due("drop of none", x.drop(0), 0);
        due("sheet(0, 0, 25)", x.sheet(0, 0, 25), BAD);
        due("sheet(0, 0, -1)", x.sheet(0, 0, -1), SIZE);
        for (int lane : new int[] {-1, 4}) due("lane " + lane, x.sheet(0, lane, -1), BAD);
        for (int s : new int[] {-1, 4}) due("sheet " + s, x.sheet(s, 0, -1), BAD);
        due("far", x.sheet(0, 0, Integer.MIN_VALUE), SIZE);
        due("far up", x.sheet(0, 0, Integer.MAX_VALUE), BAD);
        due("still nothing", x.drop(0), NULL);
        due("a row", x.sheet(1, 2, 3), 3);
        text(x, "word 1:ab");
        x.item(1, 2, 1, 1);
        due("0 1", x.seen(1, 2, 0, 2), 1);
        due("refused, the row stays", x.sheet(1, 2, -5), SIZE);
        due("0 1 still", x.seen(1, 2, 0, 2), 1);
        due("a new row", x.sheet(1, 1, 2), 2);
        due("of another lane", x.seen(1, 2, 0, 2), CAST);
        due("all 0", x.seen(1, 1, 0, 2), 0);
        due("its length", x.item(1, 1, 2, 0), INDEX);
    }

    private static void drops() {
        MouthFrames x = new MouthFrames();
        x.sheet(2, 1, 7);
        due("drop(2)", x.drop(2), 7);
        due("drop(2) again", x.drop(2), NULL);
        due("drop(4)", x.drop(4), BAD);
        due("drop(-1)", x.drop(-1), BAD);
        for (int v : FAR) due("drop " + v, x.drop(v), BAD);
        due("item of nothing", x.item(2, 1, 0, 0), NULL);
        due("a row again", x.sheet(2, 0, 2), 2);
        due("its length", x.drop(2), 2);
    }

    private static void items() {
        long[][] cut = {{256 + 1, 65536 + 1, (1L << 32) + 1, 1}, {-255, -65535, -4294967295L, 1}};
        for (int lane = 0; lane < 4; lane++) {
            MouthFrames x = withItems(lane, 0, cut[0][lane], cut[1][lane]);
            due("lane " + lane + " cut", x.seen(0, lane, 0, 3), 3);
        }
        // what the next wider lane keeps is no SHAPE there
        for (int lane = 1; lane < 4; lane++) {
            MouthFrames x = withItems(lane, 0, cut[0][lane - 1]);
            due("lane " + lane + " kept", x.seen(0, lane, 0, 2), NOT);
        }
        due("a sign comes by cutting", withItems(0, 255).seen(0, 0, 0, 1), NOT);
        MouthFrames x = withItems(2, 0, 1);
        due("item(0, 2, 1, 2)", x.item(0, 2, 1, 2), 1);
        due("it's another", x.seen(0, 2, 1, 1), 4);
        due("item 2 of 2", x.item(0, 2, 2, 0), INDEX);
        due("item -1", x.item(0, 2, -1, 0), INDEX);
        for (int v : FAR) due("item " + v, x.item(0, 2, v, 0), INDEX);
        due("another lane", x.item(0, 3, 9, 0), CAST);
        due("nothing", x.item(1, 3, 9, 0), NULL);
        for (int v : new int[] {-1, 4, Integer.MIN_VALUE, Integer.MAX_VALUE}) {
            due("sheet " + v, x.item(v, 2, 0, 0), BAD);
            due("lane " + v, x.item(0, v, 0, 0), BAD);
        }
    }

    private static void copies() {
        MouthFrames x = withItems(1, 0, 1, 2, 3, 4);
        text(x, "word 1:aabcd");
        text(x, "word 1:bcdde");
        text(x, "word 1:bcde");
        due("up by one", x.copy(0, 0, 0, 1, 4), 4);
        due("0 0 1 2 3", x.seen(0, 1, 0, 5), 16);
        due("down by one", x.copy(0, 2, 0, 1, 3), 3);
        due("1 2 3 3", x.seen(0, 1, 1, 4), 0);
        x.item(0, 1, 4, 4);
        due("1 2 3 4", x.seen(0, 1, 1, 4), 32 + 64);
        x.sheet(2, 1, 3);
        due("to another", x.copy(0, 1, 2, 1, 1), 1);
        due("0 1", x.seen(2, 1, 0, 2), 3);
        due("0 beyond", x.copy(0, 5, 2, 3, 0), 0);
        int[][] off = {{-1, 0, 1}, {0, -1, 1}, {0, 0, -1}, {0, 0, 4}, {3, 0, 3}, {0, 1, 3}, {6, 0, 0}, {0, 4, 0}, {-1, 0, 0}, {0, -1, 0}};
        for (int[] c : off) due("copy " + c[0] + " " + c[1] + " " + c[2], x.copy(0, c[0], 2, c[1], c[2]), INDEX);
        for (int v : FAR) due("copy " + v, x.copy(0, v, 2, v, v), INDEX);
        due("copy of far", x.copy(0, 1, 2, 1, Integer.MAX_VALUE), INDEX);
        due("nothing came", x.seen(2, 1, 0, 3), 8);
        x.sheet(3, 2, 3);
        due("another lane", x.copy(0, 9, 3, 0, 1), CAST);
        due("from nothing", x.copy(1, 0, 3, 0, 1), NULL);
        due("to nothing", x.copy(3, 0, 1, 0, 1), NULL);
        for (int v : new int[] {-1, 4, Integer.MIN_VALUE, Integer.MAX_VALUE}) {
            due("from " + v, x.copy(v, 0, 1, 0, 1), BAD);
            due("to " + v, x.copy(1, 0, v, 0, 1), BAD);
        }
    }

    private static void run(int number) {
        promise = number;
        switch (number) {
            case 1: aNewObject(); break;
            case 2: shapes(); break;
            case 3: signs(); break;
            case 4: soundMore(); break;
            case 5: soundOut(); break;
            case 6: frameTold(); break;
            case 7: windowTold(); break;
            case 8: signAsked(); break;
            case 9: soundAsked(); break;
            case 10: frameAsked(); break;
            case 11: counts(); break;
            case 12: pulledAsked(); break;
            case 13: smoothAsked(); break;
            case 14: jumpAsked(); break;
            case 15: calmAsked(); break;
            case 16: offAsked(); break;
            case 17: wordOut(); break;
            case 18: wordAsked(); break;
            case 19: letterAsked(); break;
            case 20: guessAsked(); break;
            case 21: typed(); break;
            case 22: faults(); texts(); break;
            case 23: drifts(); break;
            case 24: undos(); break;
            case 25: seeds(); break;
            case 26: images(); break;
            case 27: restores(); break;
            case 28: seens(); break;
            case 29: films(); break;
            case 30: sheets(); break;
            case 31: drops(); break;
            case 32: items(); break;
            default: copies(); break;
        }
    }

    public static void main(String[] args) {
        for (int number = 1; number <= 33; number++) run(number);
        System.out.println(wrong == 0 ? "promises 1 to 33: all answers are as due" : wrong + " answers are not as due");
        if (wrong != 0) System.exit(1);
    }
}
