/** The sentences on what is seen (==== 2, promises 12 to 16) that name a boundary. */
public final class SightBoundariesTest {
    private static final int BAD = Sentences.BAD, NONE = Sentences.NONE;
    private static final int MIN = Sentences.MIN, MAX = Sentences.MAX;
    private static final Sentences t = new Sentences("what is seen");

    private static MouthFrames after(String... texts) {
        return Sentences.after(texts);
    }

    private static void duePulled(MouthFrames x, int i, int axis, long above, long below) {
        t.duePart("pulled(" + i + ", " + axis + ")", x.pulled(i, axis, 0), x.pulled(i, axis, 1), above, below);
    }

    private static void dueSmooth(MouthFrames x, int f, int axis, long above, long below) {
        t.duePart("smooth(" + f + ", " + axis + ")", x.smooth(f, axis, 0), x.smooth(f, axis, 1), above, below);
    }

    private static void dueJump(MouthFrames x, int axis, long above, long below) {
        t.duePart("jump(" + axis + ")", x.jump(axis, 0), x.jump(axis, 1), above, below);
    }

    private static void dueOff(MouthFrames x, int i, long above, long below) {
        t.duePart("off(" + i + ")", x.off(i, 0), x.off(i, 1), above, below);
    }

    /** A FRAME for each TIME, and no PULL: PULLED of a SOUND is OPEN, WIDE of its SHAPE. */
    private static MouthFrames unpulled(String line) {
        MouthFrames x = after("frame 1/1", "say " + line);
        for (int s = 0; s < 12; s++) x.sign(s, s % 8, 0);
        return x;
    }

    private static void pulls() {
        t.holds("==== 2", "of the SOUND next ahead and the one next behind, if there are such", () -> {
            MouthFrames x = after("say b1,d1,h1");
            duePulled(x, 0, 0, 3, 2);
            duePulled(x, 1, 0, 17, 5);
            duePulled(x, 2, 0, 6, 1);
            duePulled(x, 0, 1, 21, 2);
            duePulled(after("say d1"), 0, 0, 3, 1);
            duePulled(after("say d1"), 0, 1, 9, 1);
            // the next but one pulls at none
            duePulled(after("say h1,b1,d1,h1"), 1, 0, 13, 5);
        });
        t.holds("==== 2", "(with FRAMES or not)", () -> {
            // marks of 0, 4, 5, 9: 0, 1, 1, 2
            MouthFrames x = after("say b4,h1,b4");
            t.due("no FRAME", x.sounds(1, 4), 0);
            duePulled(x, 0, 0, 5, 2);
            duePulled(x, 1, 0, 23, 5);
            duePulled(x, 2, 0, 5, 2);
        });
        t.holds("==== 2", "PULL of its SIGN times that of its SHAPE, together, by 3 and these PULLS together", () -> {
            MouthFrames x = after("say b1,c1,d1");
            x.sign(1, 1, 5);
            x.sign(3, 7, 5);
            duePulled(x, 1, 0, 46, 13);
            duePulled(x, 1, 1, 55 + 30 + 25, 13);
            x.sign(1, 1, 0);
            x.sign(3, 7, 0);
            duePulled(x, 1, 0, 2, 1);
            x.sign(2, 2, 0);
            duePulled(x, 0, 0, 1, 1);
            // the own PULL counts for nothing
            x.sign(2, 2, 5);
            duePulled(x, 1, 0, 2, 1);
        });
        t.holds("==== 2", "but OPEN of a CLOSED one is 0.", () -> {
            MouthFrames x = after("say h1,a1,h1");
            duePulled(x, 1, 0, 0, 1);
            duePulled(x, 1, 1, 46, 5);
            // a CLOSED one pulls at its neighbours all the same
            duePulled(x, 0, 0, 21, 4);
            duePulled(x, 0, 1, 27, 4);
            x.shape(0, 1, 12);
            duePulled(x, 1, 0, 17, 5);
        });
        t.holds("12", "PULLED of a SOUND: above (what 0), below (1). BAD.", () -> {
            MouthFrames x = after("say b1,d1");
            for (int v : new int[] {-1, 2, MIN, MAX}) {
                t.due("SOUND " + v, x.pulled(v, 0, 0), BAD);
                t.due("axis " + v, x.pulled(0, v, 0), BAD);
                t.due("what " + v, x.pulled(0, 0, v), BAD);
            }
            t.due("of none", new MouthFrames().pulled(0, 0, 0), BAD);
        });
    }

    private static void windows() {
        t.holds("==== 2", "SMOOTH by the WINDOW w (0 .. 3; 1 at first)", () -> {
            MouthFrames x = unpulled("a1,b1,d1,h1");
            dueSmooth(x, 2, 1, 11 + 9 + 5, 3);
            for (int w : new int[] {-1, 4}) t.due("window " + w, x.window(w), BAD);
            x.window(0);
            dueSmooth(x, 2, 1, 9, 1);
            x.window(3);
            dueSmooth(x, 2, 1, 37, 4);
        });
        t.holds("==== 2", "of FRAME f PULLED of the SOUNDS of all FRAMES from f less w to f and w that there are, together, by how many these are", () -> {
            // WIDE: 12, 11, 10, 9, 8, 7, 6, 5
            MouthFrames x = unpulled("a1,b1,c1,d1,e1,f1,g1,h1");
            x.window(3);
            dueSmooth(x, 0, 1, 21, 2);
            dueSmooth(x, 2, 1, 19, 2);
            dueSmooth(x, 3, 1, 9, 1);
            dueSmooth(x, 4, 1, 8, 1);
            dueSmooth(x, 5, 1, 15, 2);
            dueSmooth(x, 7, 1, 13, 2);
            x.window(2);
            dueSmooth(x, 0, 1, 11, 1);
            dueSmooth(x, 1, 1, 21, 2);
            dueSmooth(x, 7, 1, 6, 1);
            // a SOUND of two FRAMES counts twice: WIDE 11, 11, 5
            MouthFrames y = unpulled("b2,h1");
            dueSmooth(y, 1, 1, 9, 1);
            dueSmooth(y, 2, 1, 8, 1);
            y.window(3);
            dueSmooth(y, 0, 1, 9, 1);
            dueSmooth(unpulled("h1"), 0, 1, 5, 1);
            // nothing is rounded: 13 by 8 and 2, by 2
            MouthFrames e = unpulled("b1,c1");
            e.sign(2, 2, 5);
            duePulled(e, 0, 0, 13, 8);
            dueSmooth(e, 0, 0, 29, 16);
            // of no FRAME, it counts for nothing by itself
            MouthFrames z = after("say b4,h1,b4");
            dueSmooth(z, 0, 0, 5, 2);
        });
        t.holds("==== 2", "but OPEN of a FRAME of a CLOSED SOUND is 0.", () -> {
            MouthFrames x = unpulled("h1,a1,h1");
            dueSmooth(x, 1, 0, 0, 1);
            dueSmooth(x, 1, 1, 22, 3);
            // to its neighbours it counts as 0
            dueSmooth(x, 0, 0, 7, 2);
            // a FRAME that it's LENT is one of its own
            MouthFrames y = after("say h8,a1,h8");
            dueSmooth(y, 1, 0, 0, 1);
            x.shape(0, 1, 1);
            dueSmooth(x, 1, 0, 5, 1);
        });
        t.holds("13", "SMOOTH of FRAME f: above, below. BAD.", () -> {
            MouthFrames x = unpulled("b1,h1");
            for (int v : new int[] {-1, 2, MIN, MAX}) {
                t.due("FRAME " + v, x.smooth(v, 0, 0), BAD);
                t.due("axis " + v, x.smooth(0, v, 0), BAD);
                t.due("what " + v, x.smooth(0, 0, v), BAD);
            }
            t.due("of none", new MouthFrames().smooth(0, 0, 0), BAD);
            t.due("of a SOUND without FRAME", after("say b1").smooth(0, 0, 0), BAD);
            MouthFrames y = after("frame 1/1", "say b12,c12,d12,e12,f12,g12,h12,b12,c4");
            y.window(0);
            dueSmooth(y, 99, 0, 7, 4);
            t.due("a 101st", y.smooth(100, 0, 0), BAD);
        });
    }

    private static void jumps() {
        t.holds("==== 2", "JUMP: the greatest that SMOOTH of two FRAMES next to each other is apart (0, if there are no two).", () -> {
            dueJump(new MouthFrames(), 0, 0, 1);
            dueJump(after("say b1"), 0, 0, 1);
            dueJump(unpulled("h1"), 1, 0, 1);
            MouthFrames x = unpulled("b1,h1");
            x.window(0);
            dueJump(x, 0, 6, 1);
            x = unpulled("h1,b1");
            x.window(0);
            dueJump(x, 0, 6, 1);
            x = unpulled("h1,b1,c1,d1");
            x.window(0);
            dueJump(x, 0, 6, 1);
            x = unpulled("b1,c1,d1,h1");
            x.window(0);
            dueJump(x, 0, 4, 1);
            // not of the greatest and the least, nor of the first and the last
            x = unpulled("b1,d1,f1");
            x.window(0);
            dueJump(x, 0, 2, 1);
            dueJump(unpulled("b3"), 0, 0, 1);
        });
        t.holds("14", "JUMP: above, below. BAD.", () -> {
            MouthFrames x = unpulled("b1,h1");
            for (int v : new int[] {-1, 2, MIN, MAX}) {
                t.due("axis " + v, x.jump(v, 0), BAD);
                t.due("what " + v, x.jump(0, v), BAD);
            }
        });
        t.holds("15", "The least WINDOW by which JUMP is no more than v (0 .. 12).", () -> {
            // OPEN by WINDOW 0, 1, 2, 3 of 1 1 7 7: 6; 1 3 5 7: 2; 3 4 4 5: 1; 4 4 4 4: 0
            MouthFrames x = unpulled("b2,h2");
            long[] least = {3, 2, 1, 1, 1, 1, 0, 0, 0, 0, 0, 0, 0};
            for (int v = 0; v <= 12; v++) t.due("calm(0, " + v + ")", x.calm(0, v), least[v]);
            t.due("WINDOW stays", x.count(8), 1);
            t.due("nothing known", x.undo(), 5);
            // just above 1: 4/3 by WINDOW 1 of 1 1 5 5 (1 7/3 11/3 5)
            MouthFrames y = unpulled("b2,f2");
            t.due("calm(0, 1), a third too much", y.calm(0, 1), 2);
            t.due("calm(0, 2), a third less would do", y.calm(0, 2), 1);
            // 5/2 5/2 11/2 11/2
            t.due("calm(0, 0), all by all", after("frame 1/1", "say b2,h2").calm(0, 0), 3);
            t.due("no FRAME", new MouthFrames().calm(0, 0), 0);
            t.due("one FRAME", unpulled("h1").calm(1, 0), 0);
            x.shape(7, 12, 5);
            x.shape(1, 0, 12);
            t.due("the greatest JUMP of all", x.calm(0, 12), 0);
            t.due("less than that", x.calm(0, 11), 1);
        });
        t.holds("15", "BAD; NONE (there is none).", () -> {
            // a CLOSED one stays at 0, the other one is at 7 / 2 or more
            MouthFrames x = unpulled("a1,h1");
            t.due("calm(0, 3)", x.calm(0, 3), NONE);
            t.due("calm(0, 4)", x.calm(0, 4), 1);
            for (int v : new int[] {-1, 13, MIN, MAX}) t.due("v " + v, x.calm(0, v), BAD);
            for (int v : new int[] {-1, 2, MIN, MAX}) t.due("axis " + v, x.calm(v, 0), BAD);
        });
    }

    private static void offs() {
        t.holds("==== 2", "how far a by b times the MARK of its START (ahead of what is LENT) is from that START, without sign", () -> {
            // STARTS 0, 3, 4, 5, 6: MARKS 0, 1, 1, 1, 2: 0, 1, 0, -1, 2 of 4
            MouthFrames x = after("say b3,c1,d1,e1,f1");
            dueOff(x, 0, 0, 1);
            dueOff(x, 1, 1, 4);
            dueOff(x, 2, 0, 1);
            dueOff(x, 3, 1, 4);
            dueOff(x, 4, 1, 2);
            // the CLOSED one has FRAME 1, but its MARK is 2; lent by the one behind, that one's MARK is 1, not 2
            MouthFrames y = after("say b8,a1,b8");
            t.due("first FRAME", y.sounds(1, 3), 1);
            dueOff(y, 1, 0, 1);
            MouthFrames z = after("say b4,a1,b8");
            t.due("first FRAME behind", z.sounds(2, 3), 2);
            dueOff(z, 2, 1, 4);
        });
        t.holds("==== 2", "divided by a by b (so: told in FRAMES).", () -> {
            MouthFrames x = after("say b3,c1");
            x.frame(5, 2);
            // FRAMES of 5 by 2: the MARK of 3 is 1, 1 by 2 of them away
            dueOff(x, 1, 1, 5);
            x.frame(12, 1);
            dueOff(x, 1, 1, 4);
            x.frame(6, 1);
            dueOff(x, 1, 1, 2);
            x.frame(1, 2);
            dueOff(x, 1, 0, 1);
        });
        t.holds("16", "OFF of a SOUND: above, below. BAD.", () -> {
            MouthFrames x = after("say b3,c1");
            for (int v : new int[] {-1, 2, MIN, MAX}) {
                t.due("SOUND " + v, x.off(v, 0), BAD);
                t.due("what " + v, x.off(0, v), BAD);
            }
            t.due("of none", new MouthFrames().off(0, 0), BAD);
        });
    }

    private static void fractions() {
        t.holds("Terms", "Fractions are in lowest terms: 0 above, 1 below (0 is 0 by 1).", () -> {
            duePulled(after("say a1"), 0, 0, 0, 1);
            MouthFrames x = after("say d1,b1");
            x.sign(1, 1, 3);
            duePulled(x, 0, 0, 2, 1);
            MouthFrames y = unpulled("a2");
            dueSmooth(y, 0, 0, 0, 1);
            dueSmooth(y, 0, 1, 12, 1);
            dueJump(y, 0, 0, 1);
            MouthFrames z = unpulled("b1,d1");
            dueSmooth(z, 0, 0, 2, 1);
            z.window(0);
            dueJump(z, 0, 2, 1);
            dueOff(after("say b4,c1"), 1, 0, 1);
            dueOff(after("say b2,c1"), 1, 1, 2);
            MouthFrames w = after("word 2:a", "word 2:i", "word 2:b");
            t.duePart("guess", w.guess(0), w.guess(1), 2, 3);
        });
    }

    public static void main(String[] args) {
        pulls();
        windows();
        jumps();
        offs();
        fractions();
        t.end(args);
    }
}
