import java.util.ArrayList;
import java.util.List;
import java.util.Random;

/** The Terms on answers below 0: which one comes first, what a refused call leaves; and that no call ever throws. */
public final class RefusalBoundariesTest {
    private static final int BAD = Sentences.BAD, NOT = Sentences.NOT, FULL = Sentences.FULL, NONE = Sentences.NONE;
    private static final int NULL = Sentences.NULL, CAST = Sentences.CAST, INDEX = Sentences.INDEX, SIZE = Sentences.SIZE;
    private static final int MIN = Sentences.MIN, MAX = Sentences.MAX;
    private static final String TWELVE = "say a1,b1,c1,d1,e1,f1,g1,h1,i1,j1,k1,l1";
    private static final String HUNDRED = "say b12,c12,d12,e12,f12,g12,h12,b12,c4";
    private static final Sentences t = new Sentences("answers below 0");

    interface Calls {
        void on(MouthFrames x);
    }

    private static void constants() {
        t.holds("Terms", "BAD -1 (a number is not as told, there is no such thing), NOT -2 (as told), FULL -3, NONE -4 (as told)", () -> {
            t.due("BAD", MouthFrames.BAD, -1);
            t.due("NOT", MouthFrames.NOT, -2);
            t.due("FULL", MouthFrames.FULL, -3);
            t.due("NONE", MouthFrames.NONE, -4);
        });
        t.holds("Terms", "CAST -12 (of SHEETS another LANE); what the machine finds: NULL -11, INDEX -13, SIZE -14", () -> {
            t.due("NULL", MouthFrames.NULL, -11);
            t.due("CAST", MouthFrames.CAST, -12);
            t.due("INDEX", MouthFrames.INDEX, -13);
            t.due("SIZE", MouthFrames.SIZE, -14);
        });
    }

    private static void order() {
        t.holds("Terms", "of several the first that a call names", () -> {
            MouthFrames x = Sentences.after(TWELVE);
            t.due("sound: BAD ahead of FULL", x.sound(12, 1), BAD);
            t.due("sound: BAD ahead of FULL, TIME", x.sound(0, 13), BAD);
            MouthFrames y = Sentences.after("frame 1/1", HUNDRED);
            t.due("frame: BAD ahead of FULL", y.frame(1, 3), BAD);
            t.due("letter: BAD ahead of NONE", Sentences.after("word 1:a").letter(1, 9), BAD);
            t.due("guess: BAD ahead of NONE", new MouthFrames().guess(2), BAD);
            t.due("calm: BAD ahead of NONE", Sentences.after("frame 1/1", "say a1,h1").calm(2, 0), BAD);
            MouthFrames z = new MouthFrames();
            for (int k = 0; k < 90; k++) z.type(' ');
            t.due("type: BAD ahead of FULL", z.type(127), BAD);
            MouthFrames w = Sentences.after("word 1:a", "word 1:b", "word 1:c", "word 1:d", "word 1:e", "word 1:f", "word 1:g", "word 1:h");
            t.due("read: a FAULT ahead of FULL", Sentences.text(w, "word 1:im"), -28);
            t.due("read: a FAULT ahead of NOT", Sentences.text(w, "word 1:a a"), -29);
            t.due("read: NOT ahead of FULL", Sentences.text(w, "word 1:d"), NOT);
            t.due("read: a FAULT ahead of 101 FRAMES", Sentences.text(y, "say b12,c12,d12,e12,f12,g12,h12,b12,c12,"), -20 - 40);
        });
        t.holds("Terms", "(NULL, CAST, INDEX, SIZE in this order)", () -> {
            MouthFrames x = new MouthFrames();
            t.due("seen: BAD ahead of NULL", x.seen(0, 4, 0, 1), BAD);
            t.due("seen: BAD (n) ahead of NULL", x.seen(0, 0, 0, 7), BAD);
            t.due("seen: NULL ahead of INDEX", x.seen(0, 0, -1, 1), NULL);
            t.due("film: BAD ahead of NULL", x.film(0, 4, -1), BAD);
            t.due("film: NULL ahead of INDEX", x.film(0, 0, -1), NULL);
            t.due("item: BAD ahead of NULL", x.item(0, 4, -1, 0), BAD);
            t.due("item: NULL ahead of INDEX", x.item(0, 0, -1, 0), NULL);
            t.due("sheet: BAD ahead of SIZE", x.sheet(0, 4, -1), BAD);
            x.sheet(0, 0, 2);
            x.sheet(1, 1, 2);
            x.item(0, 0, 0, 8);
            t.due("seen: BAD (n) ahead of CAST", x.seen(0, 1, 0, 0), BAD);
            t.due("seen: BAD (n) ahead of INDEX", x.seen(0, 0, 9, 7), BAD);
            t.due("seen: CAST ahead of INDEX", x.seen(0, 1, 9, 1), CAST);
            t.due("seen: CAST ahead of NOT", x.seen(0, 1, 0, 1), CAST);
            t.due("seen: INDEX ahead of NOT", x.seen(0, 0, 0, 3), INDEX);
            t.due("film: CAST ahead of INDEX", x.film(0, 1, 9), CAST);
            t.due("item: CAST ahead of INDEX", x.item(0, 1, 9, 0), CAST);
            t.due("copy: BAD (from) ahead of NULL", x.copy(4, 0, 2, 0, 1), BAD);
            t.due("copy: BAD (to) ahead of NULL", x.copy(2, 0, 4, 0, 1), BAD);
            t.due("copy: BAD ahead of INDEX", x.copy(0, 0, -1, 0, -1), BAD);
            t.due("copy: NULL ahead of INDEX", x.copy(0, -1, 2, 0, -1), NULL);
            t.due("copy: CAST ahead of INDEX", x.copy(0, -1, 1, 0, -1), CAST);
        });
    }

    /** Something of all that there is: six that may be UNDONE, SHEETS, letters on THE TAPE, an IMAGE. */
    private static MouthFrames busy() {
        MouthFrames x = Sentences.after("word 5:ab", "word 3:ij", "word 9:c", "window 2", "frame 3/1", "say b8,a1,h3,i1,c2");
        x.shape(3, 1, 12);
        x.sign(7, 3, 4);
        x.image();
        x.window(0);
        x.seed(99);
        x.sheet(0, 1, 4);
        x.item(0, 1, 1, 1);
        x.sheet(2, 3, 0);
        Sentences.type(x, "wind");
        return x;
    }

    private static MouthFrames full() {
        MouthFrames x = Sentences.after("word 1:a", "word 2:b", "word 3:c", "word 4:d", "word 5:e", "word 6:f", "word 7:g", "word 8:h");
        Sentences.text(x, "frame 1/1");
        Sentences.text(x, HUNDRED);
        return x;
    }

    /** All that can be asked, then all that can be brought back: some 350 calls. */
    private static List<Long> all(MouthFrames x) {
        List<Long> all = new ArrayList<>();
        for (int s = 0; s < 12; s++) {
            for (int k = 0; k < 4; k++) all.add((long) x.told(s, k));
        }
        addLine(all, x);
        addWords(all, x);
        addSheets(all, x);
        all.add((long) x.seed(1));
        Sentences.type(x, "ow 3");
        all.add((long) x.read());
        for (int k = 0; k < 7; k++) {
            all.add((long) x.undo());
            addLine(all, x, 0, 1, 2, 8, 9);
        }
        all.add((long) x.restore());
        addLine(all, x, 0, 1, 2, 8, 9, 10);
        return all;
    }

    private static void addLine(List<Long> all, MouthFrames x) {
        addLine(all, x, 0, 1, 2, 3, 4, 5, 6, 7, 8, 9, 10);
        for (int i = 0; i < x.count(0); i++) {
            for (int k : new int[] {0, 1, 4, 5}) all.add((long) x.sounds(i, k));
        }
        for (int axis = 0; axis < 2; axis++) all.add(x.jump(axis, 0));
    }

    private static void addLine(List<Long> all, MouthFrames x, int... counts) {
        for (int k : counts) all.add((long) x.count(k));
    }

    private static void addWords(List<Long> all, MouthFrames x) {
        for (int j = 0; j < x.count(9); j++) {
            for (int k = 0; k < 5; k++) all.add((long) x.word(j, k));
            all.add((long) x.letter(j, 0));
        }
    }

    private static void addSheets(List<Long> all, MouthFrames x) {
        for (int s = 0; s < 4; s++) {
            for (int i = 0; i < 4; i++) all.add((long) x.seen(s, s == 0 ? 1 : 3, i, 1));
            all.add((long) x.drop(s));
        }
    }

    /** Two alike, one of them refuses: they are alike then. */
    private static void dueAlike(String calls, boolean isFull, Calls refused) {
        MouthFrames x = isFull ? full() : busy();
        MouthFrames y = isFull ? full() : busy();
        refused.on(x);
        List<Long> got = all(x);
        List<Long> want = all(y);
        t.due(calls + ", how many answers", got.size(), want.size());
        for (int k = 0; k < Math.min(got.size(), want.size()); k++) t.due(calls + ", answer " + k, got.get(k), want.get(k));
    }

    private static void changesNothing() {
        t.holds("Terms", "What is refused changes nothing, but as told.", () -> {
            dueAlike("BAD numbers of signs, sounds, frames", false, x -> {
                t.due("shape", x.shape(3, 13, 1), BAD);
                t.due("shape", x.shape(3, 1, 13), BAD);
                t.due("sign", x.sign(3, 8, 0), BAD);
                t.due("sign", x.sign(3, 0, 6), BAD);
                t.due("sound", x.sound(3, 13), BAD);
                t.due("out", x.out(5), BAD);
                t.due("frame", x.frame(1, 3), BAD);
                t.due("window", x.window(4), BAD);
                t.due("forget", x.forget(3), BAD);
                t.due("type", x.type(127), BAD);
                t.due("drift", x.drift(41), BAD);
                t.due("seed", x.seed(-1), BAD);
            });
            dueAlike("NOT", false, x -> {
                t.due("shape", x.shape(3, 1, 12), NOT);
                t.due("sign", x.sign(7, 3, 4), NOT);
                t.due("frame", x.frame(3, 1), NOT);
                t.due("window", x.window(0), NOT);
            });
            dueAlike("FULL", true, x -> {
                t.due("sound", x.sound(0, 1), FULL);
                t.due("frame", x.frame(1, 2), FULL);
                t.due("word", Sentences.text(x, "word 1:i"), FULL);
                t.due("word", Sentences.text(x, "word 9:a"), NOT);
                t.due("say", Sentences.text(x, "say b12,c12,d12,e12,f12,g12,h12,b12,c5"), FULL);
                t.due("frame", Sentences.text(x, "frame 1/2"), FULL);
                t.due("restore", x.restore(), NONE);
            });
            dueAlike("FAULTS", true, x -> {
                t.due("say", Sentences.text(x, "say c1,d1,"), -30);
                t.due("word", Sentences.text(x, "word 9:im"), -28);
                t.due("frame", Sentences.text(x, "frame 2/1,"), -29);
                t.due("window", Sentences.text(x, "window 00"), -28);
                t.due("name", Sentences.text(x, "out 1"), -20);
            });
            dueAlike("SHEETS", false, x -> {
                t.due("sheet", x.sheet(0, 1, 25), BAD);
                t.due("sheet", x.sheet(0, 2, -1), SIZE);
                t.due("sheet", x.sheet(1, 2, -1), SIZE);
                t.due("drop", x.drop(1), NULL);
                t.due("item", x.item(0, 2, 0, 5), CAST);
                t.due("item", x.item(0, 1, 4, 5), INDEX);
                t.due("film", x.film(0, 1, 0), INDEX);
                t.due("film", x.film(0, 2, 0), CAST);
                t.due("film", x.film(1, 1, 0), NULL);
                t.due("seen", x.seen(0, 1, 3, 2), INDEX);
                t.due("copy", x.copy(0, 0, 0, 2, 3), INDEX);
                t.due("copy", x.copy(0, 0, 2, 0, 0), CAST);
                t.due("copy", x.copy(0, 0, 1, 0, 0), NULL);
            });
            dueAlike("what only asks", false, x -> {
                t.due("calm", x.calm(0, 13), BAD);
                t.due("calm", x.calm(0, 0), NONE);
                t.due("letter", x.letter(0, 9), NONE);
                t.due("at", x.at(100, 0), BAD);
                t.due("pulled", x.pulled(5, 0, 0), BAD);
                t.due("smooth", x.smooth(100, 0, 0), BAD);
                t.due("jump", x.jump(2, 0), BAD);
                t.due("off", x.off(5, 0), BAD);
                t.due("guess", x.guess(2), BAD);
            });
        });
        t.holds("Terms", "changes nothing, but as told", () -> {
            MouthFrames x = busy();
            t.due("a FAULT", x.read(), -20);
            t.due("THE TAPE is empty", x.type('a'), 1);
            MouthFrames y = full();
            y.seed(0);
            t.due("a refused turn", y.drift(1), 9);
            t.due("THE DRAW has gone on", y.seed(0), 12345);
        });
    }

    private static int number(Random random) {
        int[] far = {MIN, MAX, MIN + 1, MAX - 1, -1, 1 << 16, 1 << 30, 127, 128};
        return random.nextInt(8) == 0 ? far[random.nextInt(far.length)] : random.nextInt(14) - 1;
    }

    /** What is answered behind the 512th call is free, but no call may throw then, either. */
    private static void anything(MouthFrames x, Random random) {
        int a = number(random), b = number(random), c = number(random), d = number(random), e = number(random);
        switch (random.nextInt(32)) {
            case 0: x.shape(a, b, c); break;
            case 1: x.sign(a, b, c); break;
            case 2: x.sound(a, b); break;
            case 3: x.out(a); break;
            case 4: x.frame(a, b); break;
            case 5: x.window(a); break;
            case 6: x.told(a, b); break;
            case 7: x.sounds(a, b); break;
            case 8: x.at(a, b); break;
            case 9: x.count(a); break;
            case 10: x.pulled(a, b, c); break;
            case 11: x.smooth(a, b, c); break;
            case 12: x.jump(a, b); break;
            case 13: x.calm(a, b); break;
            case 14: x.off(a, b); break;
            case 15: x.forget(a); break;
            case 16: x.word(a, b); break;
            case 17: x.letter(a, b); break;
            case 18: x.guess(a); break;
            case 19: x.type(a + 90); break;
            case 20: x.read(); break;
            case 21: x.drift(a); break;
            case 22: x.undo(); break;
            case 23: x.seed(a); break;
            case 24: x.image(); break;
            case 25: x.restore(); break;
            case 26: x.seen(a, b, c, d); break;
            case 27: x.film(a, b, c); break;
            case 28: x.sheet(a, b, c); break;
            case 29: x.drop(a); break;
            case 30: x.item(a, b, c, random.nextLong()); break;
            default: x.copy(a, b, c, d, e); break;
        }
    }

    private static void neverThrows() {
        t.holds("The public face", "An object is used for at most 512 calls after it has been made; what later calls answer is free.", () -> {
            for (int seed = 0; seed < 20; seed++) {
                Random random = new Random(seed);
                MouthFrames x = new MouthFrames();
                for (int k = 0; k < 5000; k++) anything(x, random);
            }
        });
    }

    public static void main(String[] args) {
        constants();
        order();
        changesNothing();
        neverThrows();
        t.end(args);
    }
}
