import java.util.ArrayList;
import java.util.List;
import java.util.Random;

/** Runs of drawn calls on a MouthFrames and a Model: all answers must be the same. */
public final class ModelTest {
    private static int wrong = 0;
    private final Random random;
    private final MouthFrames x = new MouthFrames();
    private final Model m = new Model();
    private final List<String> calls = new ArrayList<>();

    private ModelTest(long seed) {
        random = new Random(seed);
    }

    public static void main(String[] args) {
        int runs = args.length > 0 ? Integer.parseInt(args[0]) : 3000;
        long from = args.length > 1 ? Long.parseLong(args[1]) : 0;
        for (long seed = from; seed < from + runs && wrong == 0; seed++) {
            new ModelTest(seed).run(seed);
        }
        System.out.println(wrong == 0 ? "model: " + runs + " runs are alike" : "model: not alike");
        if (wrong != 0) System.exit(1);
    }

    private void run(long seed) {
        int style = (int) (seed % 4);
        while (calls.size() < 512 && wrong == 0) {
            step(style);
        }
        if (wrong != 0) {
            System.out.println("seed " + seed + ":");
            calls.forEach(c -> System.out.println("  " + c));
        }
    }

    private void due(String call, long got, long want) {
        calls.add(call + " -> " + got);
        if (got != want) {
            wrong++;
            System.out.println(call + " answered " + got + ", the model says " + want);
        }
    }

    /** Mostly low .. high, at times a step outside, at times far away. */
    private int pick(int low, int high) {
        int r = random.nextInt(40);
        if (r == 0) return low - 1;
        if (r == 1) return high + 1;
        if (r == 2) {
            int[] far = {Integer.MIN_VALUE, Integer.MAX_VALUE, Integer.MIN_VALUE + 1, -1, 1000, 1 << 30, Integer.MAX_VALUE - 3};
            return far[random.nextInt(far.length)];
        }
        return low + random.nextInt(Math.max(1, high - low + 1));
    }

    private void step(int style) {
        int r = random.nextInt(style == 3 ? 60 : 46);
        if (r < 12) {
            tellSomething(r);
        } else if (r < 16) {
            readText(style);
        } else if (r < 31) {
            askSomething(r);
        } else if (r < 37) {
            goBackOrOn(r);
        } else if (r < 46) {
            useSheets(r);
        } else {
            useSheets(37 + r % 9);
        }
    }

    private void tellSomething(int r) {
        int p = pick(0, 11), q = pick(0, 12), w = pick(0, 12);
        switch (r) {
            case 0: case 1: {
                int k = pick(0, 7), o = random.nextInt(3) == 0 ? 0 : q;
                due("shape(" + k + ", " + o + ", " + w + ")", x.shape(k, o, w), m.shape(k, o, w));
                break;
            }
            case 2: case 3: {
                int k = pick(0, 7), l = pick(0, 5);
                due("sign(" + p + ", " + k + ", " + l + ")", x.sign(p, k, l), m.sign(p, k, l));
                break;
            }
            case 4: case 5: case 6: case 7: {
                int t = random.nextBoolean() ? pick(1, 3) : pick(1, 12);
                int s = random.nextInt(3) == 0 ? 0 : p;
                due("sound(" + s + ", " + t + ")", x.sound(s, t), m.sound(s, t));
                break;
            }
            case 8: {
                int i = pick(0, m.count(0) - 1);
                due("out(" + i + ")", x.out(i), m.out(i));
                break;
            }
            case 9: case 10: {
                int a = pick(1, 12), b = pick(1, 2);
                due("frame(" + a + ", " + b + ")", x.frame(a, b), m.frame(a, b));
                break;
            }
            default: {
                int v = pick(0, 3);
                due("window(" + v + ")", x.window(v), m.window(v));
                break;
            }
        }
    }

    private String blanks() {
        return random.nextInt(5) == 0 ? "  ".substring(random.nextInt(2)) : "";
    }

    private String number() {
        int v = random.nextInt(30) == 0 ? random.nextInt(100) : 1 + random.nextInt(12);
        return random.nextInt(6) == 0 && v < 10 ? "0" + v : "" + v;
    }

    private char signLetter() {
        return (char) ('a' + random.nextInt(12));
    }

    private String text(int style) {
        StringBuilder t = new StringBuilder(blanks());
        int r = style == 1 ? 4 + random.nextInt(4) : random.nextInt(10);
        if (r < 5) {
            t.append("say").append(random.nextInt(3) == 0 ? "" : " ").append(blanks());
            int many = random.nextInt(12) == 0 ? 12 + random.nextInt(2) : 1 + random.nextInt(12);
            for (int i = 0; i < many; i++) {
                if (i > 0) t.append(blanks()).append(',').append(blanks());
                t.append(signLetter()).append(blanks()).append(random.nextInt(3) == 0 ? number() : "" + (1 + random.nextInt(3)));
            }
        } else if (r < 8) {
            t.append("word").append(blanks()).append(1 + random.nextInt(9)).append(blanks()).append(':').append(blanks());
            int many = random.nextInt(15) == 0 ? 7 : 1 + random.nextInt(random.nextBoolean() ? 2 : 6);
            int span = random.nextBoolean() ? 2 : 12;
            for (int i = 0; i < many; i++) t.append((char) ('a' + random.nextInt(span)));
        } else if (r == 8) {
            t.append("frame").append(blanks()).append(number()).append(blanks()).append('/').append(blanks())
                .append(1 + random.nextInt(2));
        } else {
            t.append("window").append(blanks()).append(random.nextInt(4));
        }
        t.append(blanks());
        if (random.nextInt(3) == 0) spoil(t);
        return t.length() > 90 ? t.substring(0, 90) : t.toString();
    }

    private void spoil(StringBuilder t) {
        String signs = " ,:/0123456789abklmnz~A";
        char c = signs.charAt(random.nextInt(signs.length()));
        int at = random.nextInt(t.length() + 1);
        switch (random.nextInt(4)) {
            case 0: t.insert(at, c); break;
            case 1: if (at < t.length()) t.deleteCharAt(at); break;
            case 2: if (at < t.length()) t.setCharAt(at, c); break;
            default: t.setLength(at); break;
        }
    }

    private void readText(int style) {
        String text = text(style);
        // the calls of a run are counted: a TEXT is one here, though it is typed letter by letter
        for (char c : text.toCharArray()) {
            int got = x.type(c), want = m.type(c);
            if (got != want) due("type " + c, got, want);
        }
        due("read() of '" + text + "'", x.read(), m.read());
        if (random.nextInt(20) == 0) {
            int c = pick(32, 126);
            due("type(" + c + ")", x.type(c), m.type(c));
        }
    }

    private void askSomething(int r) {
        int what = pick(0, 1), axis = pick(0, 1), i = pick(0, m.count(0) - 1), f = pick(0, m.count(1) - 1);
        int j = pick(0, m.count(9) - 1);
        switch (r) {
            case 16: { int s = pick(0, 11), k = pick(0, 4); due("told(" + s + ", " + k + ")", x.told(s, k), m.told(s, k)); break; }
            case 17: case 18: case 19: { int k = pick(0, 6); due("sounds(" + i + ", " + k + ")", x.sounds(i, k), m.sounds(i, k)); break; }
            case 20: due("at(" + f + ", " + what + ")", x.at(f, what), m.at(f, what)); break;
            case 21: case 22: { int k = pick(0, 10); due("count(" + k + ")", x.count(k), m.count(k)); break; }
            case 23: due("pulled(" + i + ", " + axis + ", " + what + ")", x.pulled(i, axis, what), m.pulled(i, axis, what)); break;
            case 24: due("smooth(" + f + ", " + axis + ", " + what + ")", x.smooth(f, axis, what), m.smooth(f, axis, what)); break;
            case 25: due("jump(" + axis + ", " + what + ")", x.jump(axis, what), m.jump(axis, what)); break;
            case 26: { int v = pick(0, 12); due("calm(" + axis + ", " + v + ")", x.calm(axis, v), m.calm(axis, v)); break; }
            case 27: due("off(" + i + ", " + what + ")", x.off(i, what), m.off(i, what)); break;
            case 28: { int k = pick(0, 4); due("word(" + j + ", " + k + ")", x.word(j, k), m.word(j, k)); break; }
            case 29: { int k = pick(0, 6); due("letter(" + j + ", " + k + ")", x.letter(j, k), m.letter(j, k)); break; }
            default: due("guess(" + what + ")", x.guess(what), m.guess(what)); break;
        }
    }

    private void goBackOrOn(int r) {
        switch (r) {
            case 31: { int n = random.nextInt(3) == 0 ? pick(1, 40) : pick(1, 4); due("drift(" + n + ")", x.drift(n), m.drift(n)); break; }
            case 32: case 33: due("undo()", x.undo(), m.undo()); break;
            case 34: {
                int v = random.nextBoolean() ? pick(0, 1000) : random.nextInt();
                due("seed(" + v + ")", x.seed(v), m.seed(v));
                break;
            }
            case 35: {
                if (random.nextInt(3) > 0) due("image()", x.image(), m.image());
                else due("restore()", x.restore(), m.restore());
                break;
            }
            default: {
                int j = pick(0, m.count(9) - 1);
                due("forget(" + j + ")", x.forget(j), m.forget(j));
                break;
            }
        }
    }

    private void useSheets(int r) {
        int s = pick(0, 1), lane = pick(0, 1), i = pick(0, 8), n = pick(0, 12);
        switch (r) {
            case 37: { int k = pick(1, 6); due("seen(" + s + ", " + lane + ", " + i + ", " + k + ")", x.seen(s, lane, i, k), m.seen(s, lane, i, k)); break; }
            case 38: { int k = pick(1, 2); due("seen(" + s + ", " + lane + ", " + i + ", " + k + ")", x.seen(s, lane, i, k), m.seen(s, lane, i, k)); break; }
            case 39: due("film(" + s + ", " + lane + ", " + i + ")", x.film(s, lane, i), m.film(s, lane, i)); break;
            case 40: {
                int t = pick(0, 3), l = random.nextInt(3) == 0 ? pick(0, 3) : lane, k = pick(0, 24);
                due("sheet(" + t + ", " + l + ", " + k + ")", x.sheet(t, l, k), m.sheet(t, l, k));
                break;
            }
            case 41: { int t = pick(0, 3); if (random.nextInt(4) == 0) due("drop(" + t + ")", x.drop(t), m.drop(t)); break; }
            case 42: case 43: case 44: {
                long[] some = {256 + 3, 65536 + 2, (1L << 32) + 1, -1, 128, Long.MIN_VALUE, 8};
                long v = random.nextInt(5) == 0 ? some[random.nextInt(some.length)] : random.nextInt(random.nextBoolean() ? 2 : 8);
                int t = random.nextInt(4) == 0 ? pick(0, 3) : s, l = random.nextInt(4) == 0 ? pick(0, 3) : lane;
                due("item(" + t + ", " + l + ", " + i + ", " + v + ")", x.item(t, l, i, v), m.item(t, l, i, v));
                break;
            }
            default: {
                int t = pick(0, 1), j = pick(0, 8);
                due("copy(" + s + ", " + i + ", " + t + ", " + j + ", " + n + ")", x.copy(s, i, t, j, n), m.copy(s, i, t, j, n));
                break;
            }
        }
    }
}
