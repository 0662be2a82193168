import java.io.IOException;
import java.nio.file.Files;
import java.nio.file.Path;
import java.util.ArrayList;
import java.util.List;

/** Tests of the document's sentences: each is named by its place there and its words, and has calls with the answers due. */
final class Sentences {
    static final int BAD = -1, NOT = -2, FULL = -3, NONE = -4, NULL = -11, CAST = -12, INDEX = -13, SIZE = -14;
    static final int MIN = Integer.MIN_VALUE, MAX = Integer.MAX_VALUE;

    interface Test {
        void run();
    }

    private final String part;
    private final List<String> quotes = new ArrayList<>();
    private String now = "";
    private int wrong = 0;

    Sentences(String part) {
        this.part = part;
    }

    /** An exception is told like a wrong answer, so that the tests behind it run, too. */
    void holds(String place, String words, Test test) {
        now = place + ", \"" + words + "\"";
        quotes.add(words);
        try {
            test.run();
        } catch (RuntimeException e) {
            wrong++;
            System.out.println(now + ": " + e);
        }
    }

    void due(String call, long got, long want) {
        if (got != want) {
            wrong++;
            System.out.println(now + ": " + call + " answered " + got + ", due is " + want);
        }
    }

    void dueRow(String call, long[] got, long... want) {
        for (int i = 0; i < Math.min(got.length, want.length); i++) due(call + " of " + i, got[i], want[i]);
        due(call + ", how many", got.length, want.length);
    }

    void duePart(String call, long above, long below, long wantAbove, long wantBelow) {
        due(call + ", above", above, wantAbove);
        due(call + ", below", below, wantBelow);
    }

    /** With the document's path as an argument, the words of each sentence are looked for there. */
    void end(String[] args) {
        if (args.length > 0) lookFor(args[0]);
        System.out.println(part + ": " + quotes.size() + " sentences, " + (wrong == 0 ? "all hold" : wrong + " wrong answers"));
        if (wrong != 0) System.exit(1);
    }

    private void lookFor(String path) {
        try {
            String document = Files.readString(Path.of(path)).replace("`", "").replaceAll("\\s+", " ");
            for (String words : quotes) {
                if (!document.contains(words)) {
                    wrong++;
                    System.out.println("not in the document: " + words);
                }
            }
        } catch (IOException e) {
            wrong++;
            System.out.println("no document: " + e);
        }
    }

    static void type(MouthFrames x, String letters) {
        for (char c : letters.toCharArray()) x.type(c);
    }

    static int text(MouthFrames x, String text) {
        type(x, text);
        return x.read();
    }

    static MouthFrames after(String... texts) {
        MouthFrames x = new MouthFrames();
        for (String t : texts) {
            int answer = text(x, t);
            if (answer < 0) throw new IllegalStateException("the text '" + t + "' answered " + answer);
        }
        return x;
    }

    static long[] sounds(MouthFrames x, int what) {
        long[] row = new long[x.count(0)];
        for (int i = 0; i < row.length; i++) row[i] = x.sounds(i, what);
        return row;
    }

    static long[] frames(MouthFrames x, int what) {
        long[] row = new long[x.count(1)];
        for (int f = 0; f < row.length; f++) row[f] = x.at(f, what);
        return row;
    }

    static long[] words(MouthFrames x, int what) {
        long[] row = new long[x.count(9)];
        for (int j = 0; j < row.length; j++) row[j] = x.word(j, what);
        return row;
    }

    /** The seed by which THE DRAW becomes this by the next turn of a DRIFT: gone back by the factor's inverse. */
    static int seedOf(long draw) {
        long factor = 1103515245L, inverse = 1;
        for (int k = 0; k < 6; k++) inverse = inverse * (2 - factor * inverse) & 0x7fffffffL;
        return (int) ((draw - 12345L) * inverse & 0x7fffffffL);
    }

    /** One turn of a DRIFT that has this x, by the least of its DRAWS. */
    static int turn(MouthFrames x, int drawn) {
        x.seed(seedOf((long) drawn << 16));
        return x.drift(1);
    }

    /** The same, by the greatest of its DRAWS. */
    static int turnFromAbove(MouthFrames x, int drawn) {
        x.seed(seedOf(((long) drawn << 16) + 65535));
        return x.drift(1);
    }
}
