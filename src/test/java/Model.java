import java.math.BigInteger;
import java.util.ArrayList;
import java.util.Arrays;
import java.util.Collections;
import java.util.LinkedList;
import java.util.List;
import java.util.regex.Matcher;
import java.util.regex.Pattern;

/**
 * The document told a second time, in another way: lists, fractions of BigIntegers, copies of the
 * whole state, regular expressions for TEXTS. ModelTest compares it with MouthFrames.
 */
final class Model {
    static final int BAD = -1, NOT = -2, FULL = -3, NONE = -4, NULL = -11, CAST = -12, INDEX = -13, SIZE = -14;

    record Sign(int shape, int pull) { }

    record Shape(int open, int wide) { }

    record Sound(int sign, int time) { }

    record Word(int weight, List<Integer> signs) { }

    record Fraction(BigInteger above, BigInteger below) {
        static Fraction of(long above, long below) {
            return new Fraction(BigInteger.valueOf(above), BigInteger.valueOf(below)).reduced();
        }

        Fraction reduced() {
            BigInteger by = above.gcd(below);
            return new Fraction(above.divide(by), below.divide(by));
        }

        Fraction plus(Fraction o) {
            return new Fraction(above.multiply(o.below).add(o.above.multiply(below)), below.multiply(o.below)).reduced();
        }

        Fraction apart(Fraction o) {
            return new Fraction(above.multiply(o.below).subtract(o.above.multiply(below)).abs(), below.multiply(o.below)).reduced();
        }

        Fraction by(long n) {
            return new Fraction(above, below.multiply(BigInteger.valueOf(n))).reduced();
        }

        boolean above(Fraction o) {
            return above.multiply(o.below).compareTo(o.above.multiply(below)) > 0;
        }

        long part(int what) {
            return (what == 0 ? above : below).longValueExact();
        }
    }

    private static final Fraction ZERO = Fraction.of(0, 1);

    /** All but SHEETS, THE TAPE, IMAGES, and what may be UNDONE. */
    private static final class State {
        List<Shape> shapes = new ArrayList<>();
        List<Sign> signs = new ArrayList<>();
        List<Sound> line = new ArrayList<>();
        List<Word> words = new ArrayList<>();
        int a = 4, b = 1, window = 1;
        long draw = 1;

        State copied() {
            State s = new State();
            s.shapes.addAll(shapes);
            s.signs.addAll(signs);
            s.line.addAll(line);
            s.words.addAll(words);
            s.a = a;
            s.b = b;
            s.window = window;
            s.draw = draw;
            return s;
        }
    }

    private State now = new State();
    private LinkedList<State> undos = new LinkedList<>();
    private State imageNow;
    private LinkedList<State> imageUndos;
    private final StringBuilder tape = new StringBuilder();
    private final Object[] sheets = new Object[4];

    Model() {
        for (int k = 0; k < 8; k++) now.shapes.add(new Shape(k, 12 - k));
        for (int s = 0; s < 12; s++) now.signs.add(new Sign(s % 8, 1));
    }

    private void remember(State ahead) {
        undos.addLast(ahead);
        while (undos.size() > 6) undos.removeFirst();
    }

    private int remembered(State ahead, int answer) {
        if (answer >= 0) remember(ahead);
        return answer;
    }

    private static boolean out(int v, int low, int high) {
        return v < low || v > high;
    }

    private int mark(int t, int a, int b) {
        return (int) Math.floor((double) (t * b) / a + 0.5);
    }

    private int allTime() {
        return now.line.stream().mapToInt(Sound::time).sum();
    }

    private int start(int i) {
        return now.line.subList(0, i).stream().mapToInt(Sound::time).sum();
    }

    private Shape shapeOfSign(int s) {
        return now.shapes.get(now.signs.get(s).shape());
    }

    private boolean closed(int i) {
        return shapeOfSign(now.line.get(i).sign()).open() == 0;
    }

    // the sound of each frame, and by whom each sound is lent one (3: lost)
    private List<Integer> frames;
    private int[] lent;

    private void cut() {
        frames = new ArrayList<>();
        lent = new int[now.line.size()];
        for (int i = 0; i < now.line.size(); i++) {
            int to = mark(start(i) + now.line.get(i).time(), now.a, now.b);
            while (frames.size() < to) frames.add(i);
        }
        for (int i = 0; i < now.line.size(); i++) {
            if (!closed(i) || frames.contains(i)) continue;
            if (Collections.frequency(frames, i - 1) >= 2) {
                frames.set(frames.lastIndexOf(i - 1), i);
                lent[i] = 1;
            } else if (Collections.frequency(frames, i + 1) >= 2) {
                frames.set(frames.indexOf(i + 1), i);
                lent[i] = 2;
            } else {
                lent[i] = 3;
            }
        }
    }

    int shape(int k, int open, int wide) {
        State was = now.copied();
        return remembered(was, doShape(k, open, wide));
    }

    private int doShape(int k, int open, int wide) {
        if (out(k, 0, 7) || out(open, 0, 12) || out(wide, 0, 12)) return BAD;
        Shape old = now.shapes.get(k);
        if (old.equals(new Shape(open, wide))) return NOT;
        now.shapes.set(k, new Shape(open, wide));
        return 13 * old.open() + old.wide();
    }

    int sign(int s, int shape, int pull) {
        State was = now.copied();
        return remembered(was, doSign(s, shape, pull));
    }

    private int doSign(int s, int shape, int pull) {
        if (out(s, 0, 11) || out(shape, 0, 7) || out(pull, 0, 5)) return BAD;
        Sign old = now.signs.get(s);
        if (old.equals(new Sign(shape, pull))) return NOT;
        now.signs.set(s, new Sign(shape, pull));
        return 6 * old.shape() + old.pull();
    }

    int sound(int s, int time) {
        State was = now.copied();
        return remembered(was, doSound(s, time));
    }

    private int doSound(int s, int time) {
        if (out(s, 0, 11) || out(time, 1, 12)) return BAD;
        if (now.line.size() == 12 || mark(allTime() + time, now.a, now.b) >= 101) return FULL;
        now.line.add(new Sound(s, time));
        return now.line.size() - 1;
    }

    int out(int i) {
        State was = now.copied();
        return remembered(was, doOut(i));
    }

    private int doOut(int i) {
        if (out(i, 0, now.line.size() - 1)) return BAD;
        now.line.remove(i);
        return now.line.size();
    }

    int frame(int a, int b) {
        State was = now.copied();
        return remembered(was, doFrame(a, b));
    }

    private int doFrame(int a, int b) {
        if (out(a, 1, 12) || out(b, 1, 2)) return BAD;
        if (a == now.a && b == now.b) return NOT;
        if (mark(allTime(), a, b) >= 101) return FULL;
        int was = 10 * now.a + now.b;
        now.a = a;
        now.b = b;
        return was;
    }

    int window(int w) {
        State was = now.copied();
        return remembered(was, doWindow(w));
    }

    private int doWindow(int w) {
        if (out(w, 0, 3)) return BAD;
        if (w == now.window) return NOT;
        int was = now.window;
        now.window = w;
        return was;
    }

    int told(int s, int what) {
        if (out(s, 0, 11) || out(what, 0, 4)) return BAD;
        int[] all = {now.signs.get(s).shape(), now.signs.get(s).pull(), shapeOfSign(s).open(), shapeOfSign(s).wide(),
            shapeOfSign(s).open() == 0 ? 1 : 0};
        return all[what];
    }

    int sounds(int i, int what) {
        if (out(i, 0, now.line.size() - 1) || out(what, 0, 6)) return BAD;
        cut();
        int first = (int) frames.stream().filter(s -> s < i).count();
        int[] all = {now.line.get(i).sign(), now.line.get(i).time(), start(i), first, Collections.frequency(frames, i),
            lent[i] % 3, lent[i] / 3};
        return all[what];
    }

    int at(int f, int what) {
        cut();
        if (out(f, 0, frames.size() - 1) || out(what, 0, 1)) return BAD;
        return what == 0 ? frames.get(f) : shapeNumber(f);
    }

    private int shapeNumber(int f) {
        return now.signs.get(now.line.get(frames.get(f)).sign()).shape();
    }

    int count(int what) {
        cut();
        int without = 0, lost = 0;
        for (int i = 0; i < lent.length; i++) {
            if (!frames.contains(i)) without++;
            if (lent[i] == 3) lost++;
        }
        List<int[]> holds = new ArrayList<>();
        for (int f = 0; f < frames.size(); ) {
            int to = f;
            while (to < frames.size() && shapeNumber(to) == shapeNumber(f)) to++;
            holds.add(new int[] {f, to - f});
            f = to;
        }
        int longest = holds.stream().mapToInt(h -> h[1]).max().orElse(0);
        int from = holds.stream().filter(h -> h[1] == longest).mapToInt(h -> h[0]).findFirst().orElse(NONE);
        int[] all = {now.line.size(), frames.size(), allTime(), without, lost, holds.size(), longest, from, now.window,
            now.words.size(), undos.size()};
        return what >= 0 && what < all.length ? all[what] : BAD;
    }

    private int size(int i, int axis) {
        Shape k = shapeOfSign(now.line.get(i).sign());
        return axis == 0 ? k.open() : k.wide();
    }

    private Fraction pulledOf(int i, int axis) {
        if (axis == 0 && closed(i)) return ZERO;
        long above = 3L * size(i, axis), below = 3;
        for (int k : new int[] {i - 1, i + 1}) {
            if (k < 0 || k >= now.line.size()) continue;
            int pull = now.signs.get(now.line.get(k).sign()).pull();
            above += (long) pull * size(k, axis);
            below += pull;
        }
        return Fraction.of(above, below);
    }

    private Fraction smoothOf(int f, int axis, int w) {
        if (axis == 0 && closed(frames.get(f))) return ZERO;
        Fraction together = ZERO;
        int many = 0;
        for (int g = 0; g < frames.size(); g++) {
            if (Math.abs(g - f) > w) continue;
            together = together.plus(pulledOf(frames.get(g), axis));
            many++;
        }
        return together.by(many);
    }

    private Fraction jumpOf(int axis, int w) {
        Fraction most = ZERO;
        for (int f = 0; f + 1 < frames.size(); f++) {
            Fraction apart = smoothOf(f, axis, w).apart(smoothOf(f + 1, axis, w));
            if (apart.above(most)) most = apart;
        }
        return most;
    }

    int pulled(int i, int axis, int what) {
        if (out(i, 0, now.line.size() - 1) || out(axis, 0, 1) || out(what, 0, 1)) return BAD;
        return (int) pulledOf(i, axis).part(what);
    }

    long smooth(int f, int axis, int what) {
        cut();
        if (out(f, 0, frames.size() - 1) || out(axis, 0, 1) || out(what, 0, 1)) return BAD;
        return smoothOf(f, axis, now.window).part(what);
    }

    long jump(int axis, int what) {
        cut();
        if (out(axis, 0, 1) || out(what, 0, 1)) return BAD;
        return jumpOf(axis, now.window).part(what);
    }

    int calm(int axis, int v) {
        cut();
        if (out(axis, 0, 1) || out(v, 0, 12)) return BAD;
        for (int w = 0; w < 4; w++) {
            if (!jumpOf(axis, w).above(Fraction.of(v, 1))) return w;
        }
        return NONE;
    }

    int off(int i, int what) {
        if (out(i, 0, now.line.size() - 1) || out(what, 0, 1)) return BAD;
        Fraction marked = Fraction.of((long) now.a * mark(start(i), now.a, now.b), now.b);
        Fraction apart = marked.apart(Fraction.of(start(i), 1));
        Fraction inFrames = new Fraction(apart.above().multiply(BigInteger.valueOf(now.b)), apart.below()).by(now.a);
        return (int) inFrames.part(what);
    }

    int forget(int j) {
        if (out(j, 0, now.words.size() - 1)) return BAD;
        remember(now.copied());
        now.words.remove(j);
        return now.words.size();
    }

    private static List<Integer> once(List<Integer> row) {
        List<Integer> look = new ArrayList<>();
        for (int v : row) {
            if (look.isEmpty() || look.get(look.size() - 1) != v) look.add(v);
        }
        return look;
    }

    private List<Integer> look(Word word) {
        List<Integer> row = new ArrayList<>();
        for (int s : word.signs()) row.add(now.signs.get(s).shape());
        return once(row);
    }

    private List<Integer> alike(List<Integer> look) {
        List<Integer> all = new ArrayList<>();
        for (int j = 0; j < now.words.size(); j++) {
            if (look(now.words.get(j)).equals(look)) all.add(j);
        }
        return all;
    }

    int word(int j, int what) {
        if (out(j, 0, now.words.size() - 1) || out(what, 0, 4)) return BAD;
        Word word = now.words.get(j);
        List<Integer> alike = alike(look(word));
        int[] all = {word.weight(), word.signs().size(), look(word).size(), alike.size(), alike.get(0)};
        return all[what];
    }

    int letter(int j, int k) {
        if (out(j, 0, now.words.size() - 1) || k < 0) return BAD;
        List<Integer> signs = now.words.get(j).signs();
        return k < signs.size() ? signs.get(k) : NONE;
    }

    int guess(int what) {
        if (out(what, 0, 1)) return BAD;
        if (now.words.isEmpty()) return NONE;
        int right = 0, all = 0;
        List<List<Integer>> done = new ArrayList<>();
        for (Word word : now.words) {
            all += word.weight();
            if (done.contains(look(word))) continue;
            done.add(look(word));
            right += alike(look(word)).stream().mapToInt(j -> now.words.get(j).weight()).max().getAsInt();
        }
        return (int) Fraction.of(right, all).part(what);
    }

    int type(int letter) {
        if (out(letter, 32, 126)) return BAD;
        if (tape.length() == 90) return FULL;
        tape.append((char) letter);
        return tape.length();
    }

    private static final Pattern SAY = Pattern.compile(" *say *[a-l] *[0-9]{1,2} *(, *[a-l] *[0-9]{1,2} *){0,11}");
    private static final Pattern SAY_COMMA = Pattern.compile(" *say *[a-l] *[0-9]{1,2} *(, *[a-l] *[0-9]{1,2} *){11},? *");
    private static final Pattern WORD = Pattern.compile(" *word *([1-9]) *: *([a-l]{1,6}) *");
    private static final Pattern FRAME = Pattern.compile(" *frame *([0-9]{1,2}) */ *([12]) *");
    private static final Pattern WINDOW = Pattern.compile(" *window *([0-3]) *");
    private static final Pattern NAME = Pattern.compile(" *([a-z]*)");
    private static final Pattern ONE_SOUND = Pattern.compile("[ ,]*([a-l]) *([0-9]{1,2})");

    private static boolean viable(Pattern p, String start) {
        Matcher m = p.matcher(start);
        return m.matches() || m.hitEnd();
    }

    private static boolean mayStart(String name, String start) {
        switch (name) {
            case "say": return viable(SAY, start) || viable(SAY_COMMA, start);
            case "word": return viable(WORD, start);
            case "frame": return viable(FRAME, start);
            default: return viable(WINDOW, start);
        }
    }

    private static boolean isWhole(String name, String text) {
        switch (name) {
            case "say": return SAY.matcher(text).matches();
            case "word": return WORD.matcher(text).matches();
            case "frame": return FRAME.matcher(text).matches();
            default: return WINDOW.matcher(text).matches();
        }
    }

    /** The place of the FAULT of a TEXT, -1 of none. */
    static int faultOf(String text) {
        Matcher m = NAME.matcher(text);
        if (!m.lookingAt()) return 0;
        String name = m.group(1);
        if (!List.of("say", "word", "frame", "window").contains(name)) return m.start(1);
        int place = 0;
        while (place < text.length() && mayStart(name, text.substring(0, place + 1))) place++;
        int fault = place == text.length() && isWhole(name, text) ? -1 : place;
        String fine = text.substring(0, place);
        if (name.equals("say")) {
            Matcher one = ONE_SOUND.matcher(fine);
            one.region(m.end(), fine.length());
            while (one.find()) {
                if (out(Integer.parseInt(one.group(2)), 1, 12)) return one.start(2);
            }
        }
        if (name.equals("frame")) {
            Matcher one = Pattern.compile("[0-9]{1,2}").matcher(fine);
            if (one.find() && out(Integer.parseInt(one.group()), 1, 12)) return one.start();
        }
        return fault;
    }

    int read() {
        String text = tape.toString();
        tape.setLength(0);
        int fault = faultOf(text);
        if (fault >= 0) return -20 - fault;
        State was = now.copied();
        return remembered(was, tell(text));
    }

    private int tell(String text) {
        Matcher m = WINDOW.matcher(text);
        if (m.matches()) return doWindow(Integer.parseInt(m.group(1)));
        m = FRAME.matcher(text);
        if (m.matches()) return doFrame(Integer.parseInt(m.group(1)), Integer.parseInt(m.group(2)));
        m = WORD.matcher(text);
        if (m.matches()) {
            List<Integer> signs = new ArrayList<>();
            for (char c : m.group(2).toCharArray()) signs.add(c - 'a');
            for (Word word : now.words) {
                if (word.signs().equals(signs)) return NOT;
            }
            if (now.words.size() == 8) return FULL;
            now.words.add(new Word(Integer.parseInt(m.group(1)), signs));
            return now.words.size();
        }
        List<Sound> line = new ArrayList<>();
        for (String part : text.trim().substring(3).split(",")) {
            String tight = part.replace(" ", "");
            line.add(new Sound(tight.charAt(0) - 'a', Integer.parseInt(tight.substring(1))));
        }
        if (mark(line.stream().mapToInt(Sound::time).sum(), now.a, now.b) >= 101) return FULL;
        now.line = line;
        return line.size();
    }

    int drift(int n) {
        if (out(n, 1, 40)) return BAD;
        for (int turn = 0; turn < n; turn++) {
            remember(now.copied());
            BigInteger drawn = BigInteger.valueOf(now.draw).multiply(BigInteger.valueOf(1103515245)).add(BigInteger.valueOf(12345));
            now.draw = drawn.mod(BigInteger.ONE.shiftLeft(31)).longValueExact();
            int x = (int) (now.draw >> 16);
            int p = (x >> 3) % 12, q = (x >> 7) % 12;
            switch (x & 7) {
                case 3: doSign(p, q % 8, (x >> 11) % 6); break;
                case 4: doShape(p % 8, q, (x >> 11) % 13); break;
                case 5: doOut(p); break;
                case 6: doFrame(p + 1, q % 2 + 1); break;
                case 7: doWindow(p % 4); break;
                default: doSound(p, q + 1); break;
            }
        }
        return now.line.size();
    }

    int undo() {
        if (undos.isEmpty()) return NONE;
        now = undos.removeLast();
        return undos.size();
    }

    int seed(int v) {
        if (v < 0) return BAD;
        int was = (int) now.draw;
        now.draw = v;
        return was;
    }

    int image() {
        imageNow = now.copied();
        imageUndos = new LinkedList<>();
        for (State s : undos) imageUndos.add(s.copied());
        return 1;
    }

    int restore() {
        if (imageNow == null) return NONE;
        now = imageNow.copied();
        undos = new LinkedList<>();
        for (State s : imageUndos) undos.add(s.copied());
        return 1;
    }

    private static int lengthOf(Object row) {
        return java.lang.reflect.Array.getLength(row);
    }

    private static int laneOf(Object row) {
        return row instanceof byte[] ? 0 : row instanceof short[] ? 1 : row instanceof int[] ? 2 : 3;
    }

    private static long itemOf(Object row, int i) {
        return java.lang.reflect.Array.getLong(row, i);
    }

    private static void put(Object row, int i, long v) {
        if (row instanceof byte[] r) r[i] = (byte) v;
        else if (row instanceof short[] r) r[i] = (short) v;
        else if (row instanceof int[] r) r[i] = (int) v;
        else if (row instanceof long[] r) r[i] = v;
    }

    private int refused(int sheet, int lane) {
        if (out(sheet, 0, 3) || out(lane, 0, 3)) return BAD;
        if (sheets[sheet] == null) return NULL;
        return laneOf(sheets[sheet]) == lane ? 1 : CAST;
    }

    private static boolean outside(Object row, int i, int n) {
        return i < 0 || n < 0 || (long) i + n > lengthOf(row);
    }

    int seen(int sheet, int lane, int i, int n) {
        if (out(n, 1, 6)) return BAD;
        if (refused(sheet, lane) < 0) return refused(sheet, lane);
        if (outside(sheets[sheet], i, n)) return INDEX;
        List<Integer> row = new ArrayList<>();
        for (int k = 0; k < n; k++) {
            long v = itemOf(sheets[sheet], i + k);
            if (v < 0 || v > 7) return NOT;
            row.add((int) v);
        }
        return alike(once(row)).stream().mapToInt(j -> 1 << j).sum();
    }

    int film(int sheet, int lane, int i) {
        if (refused(sheet, lane) < 0) return refused(sheet, lane);
        if (outside(sheets[sheet], i, now.line.size())) return INDEX;
        cut();
        for (int k = 0; k < now.line.size(); k++) put(sheets[sheet], i + k, Collections.frequency(frames, k));
        return now.line.size();
    }

    int sheet(int sheet, int lane, int n) {
        if (out(sheet, 0, 3) || out(lane, 0, 3) || n > 24) return BAD;
        if (n < 0) return SIZE;
        Object[] rows = {new byte[n], new short[n], new int[n], new long[n]};
        sheets[sheet] = rows[lane];
        return n;
    }

    int drop(int sheet) {
        if (out(sheet, 0, 3)) return BAD;
        if (sheets[sheet] == null) return NULL;
        int had = lengthOf(sheets[sheet]);
        sheets[sheet] = null;
        return had;
    }

    int item(int sheet, int lane, int i, long v) {
        if (refused(sheet, lane) < 0) return refused(sheet, lane);
        if (outside(sheets[sheet], i, 1)) return INDEX;
        put(sheets[sheet], i, v);
        return 1;
    }

    int copy(int from, int i, int to, int j, int n) {
        if (out(from, 0, 3) || out(to, 0, 3)) return BAD;
        if (sheets[from] == null || sheets[to] == null) return NULL;
        if (laneOf(sheets[from]) != laneOf(sheets[to])) return CAST;
        if (outside(sheets[from], i, n) || outside(sheets[to], j, n)) return INDEX;
        long[] taken = new long[n];
        Arrays.setAll(taken, k -> itemOf(sheets[from], i + k));
        for (int k = 0; k < n; k++) put(sheets[to], j + k, taken[k]);
        return n;
    }
}
