/** The sentences on SHEETS (the head ahead of their calls, promises 28 to 33) that name a boundary. */
public final class SheetBoundariesTest {
    private static final int BAD = Sentences.BAD, NOT = Sentences.NOT, NULL = Sentences.NULL, CAST = Sentences.CAST;
    private static final int INDEX = Sentences.INDEX, SIZE = Sentences.SIZE, MIN = Sentences.MIN, MAX = Sentences.MAX;
    private static final int[] NO_SHEETS = {-1, 4, MIN, MAX};
    private static final Sentences t = new Sentences("sheets");

    /** WORD k is the SIGN of SHAPE k alone: the set of one item tells the item. */
    private static MouthFrames withWords() {
        return Sentences.after("word 1:a", "word 1:b", "word 1:c", "word 1:d", "word 1:e", "word 1:f", "word 1:g", "word 1:h");
    }

    private static void put(MouthFrames x, int sheet, int lane, long... items) {
        x.sheet(sheet, lane, items.length);
        for (int i = 0; i < items.length; i++) x.item(sheet, lane, i, items[i]);
    }

    /** Items 0 .. 7 as they are, others as NOT. */
    private static void dueItems(MouthFrames x, int sheet, int lane, long... want) {
        for (int i = 0; i < want.length; i++) {
            int set = x.seen(sheet, lane, i, 1);
            t.due("item " + i + " of sheet " + sheet, set == NOT ? NOT : Integer.numberOfTrailingZeros(set), want[i]);
        }
        t.due("behind the last of sheet " + sheet, x.seen(sheet, lane, want.length, 1), INDEX);
    }

    private static void rows() {
        t.holds("sheets", "sheets 0 .. 3: nothing (at first)", () -> {
            MouthFrames x = withWords();
            for (int s = 0; s < 4; s++) {
                t.due("seen of sheet " + s, x.seen(s, 0, 0, 1), NULL);
                t.due("film to sheet " + s, x.film(s, 0, 0), NULL);
                t.due("item of sheet " + s, x.item(s, 0, 0, 0), NULL);
                t.due("drop of sheet " + s, x.drop(s), NULL);
                t.due("sheet " + s, x.sheet(s, s, s + 1), s + 1);
            }
            for (int s = 0; s < 4; s++) t.due("drop of row " + s, x.drop(s), s + 1);
            for (int s : NO_SHEETS) {
                t.due("seen of sheet " + s, x.seen(s, 0, 0, 1), BAD);
                t.due("film to sheet " + s, x.film(s, 0, 0), BAD);
                t.due("sheet " + s, x.sheet(s, 0, 1), BAD);
                t.due("drop of sheet " + s, x.drop(s), BAD);
                t.due("item of sheet " + s, x.item(s, 0, 0, 0), BAD);
                t.due("copy from sheet " + s, x.copy(s, 0, 0, 0, 0), BAD);
                t.due("copy to sheet " + s, x.copy(0, 0, s, 0, 0), BAD);
            }
        });
        t.holds("sheets", "or a row of a LANE: 0 bytes, 1 shorts, 2 ints, 3 longs, of 0 to 24 items.", () -> {
            MouthFrames x = withWords();
            for (int lane = 0; lane < 4; lane++) {
                t.due("24 items", x.sheet(lane, lane, 24), 24);
                t.due("the last", x.item(lane, lane, 23, 7), 1);
                t.due("behind the last", x.item(lane, lane, 24, 7), INDEX);
                t.due("the last told", x.seen(lane, lane, 23, 1), 128);
                t.due("no item", x.sheet(lane, lane, 0), 0);
                t.due("the first of none", x.item(lane, lane, 0, 7), INDEX);
            }
            for (int lane : NO_SHEETS) {
                t.due("sheet of lane " + lane, x.sheet(0, lane, 1), BAD);
                t.due("item of lane " + lane, x.item(0, lane, 0, 0), BAD);
                t.due("seen of lane " + lane, x.seen(0, lane, 0, 1), BAD);
                t.due("film to lane " + lane, x.film(0, lane, 0), BAD);
            }
        });
        t.holds("30", "A SHEET holds a new row of a LANE: n. BAD: also n above 24; SIZE: n below 0.", () -> {
            MouthFrames x = withWords();
            put(x, 0, 2, 5, 6);
            for (int n : new int[] {25, MAX}) t.due("n " + n, x.sheet(0, 1, n), BAD);
            for (int n : new int[] {-1, MIN}) t.due("n " + n, x.sheet(0, 1, n), SIZE);
            for (int s : NO_SHEETS) t.due("n -1 of sheet " + s, x.sheet(s, 0, -1), BAD);
            for (int s : NO_SHEETS) t.due("n -1 of lane " + s, x.sheet(0, s, -1), BAD);
            dueItems(x, 0, 2, 5, 6);
            t.due("a new row", x.sheet(0, 2, 3), 3);
            dueItems(x, 0, 2, 0, 0, 0);
            x.item(0, 2, 2, 7);
            t.due("a shorter one", x.sheet(0, 2, 2), 2);
            t.due("a longer one again", x.sheet(0, 2, 3), 3);
            dueItems(x, 0, 2, 0, 0, 0);
            t.due("of another LANE", x.sheet(0, 3, 1), 1);
            t.due("it isn't the former one's", x.item(0, 2, 0, 0), CAST);
        });
        t.holds("31", "A SHEET holds nothing: how many items it had. BAD; NULL.", () -> {
            MouthFrames x = new MouthFrames();
            x.sheet(0, 0, 24);
            x.sheet(3, 0, 0);
            t.due("24 items", x.drop(0), 24);
            t.due("nothing", x.drop(0), NULL);
            t.due("none of a row", x.drop(3), 0);
            t.due("nothing of that", x.drop(3), NULL);
            t.due("item of nothing", x.item(0, 0, 0, 0), NULL);
            MouthFrames y = withWords();
            put(y, 1, 1, 7);
            y.drop(1);
            y.sheet(1, 1, 1);
            dueItems(y, 1, 1, 0);
        });
    }

    private static void items() {
        t.holds("32", "becomes v, its lowest bits (with its sign): 1.", () -> {
            int[] bits = {8, 16, 32};
            for (int lane = 0; lane < 3; lane++) {
                long over = 1L << bits[lane];
                MouthFrames x = withWords();
                put(x, 0, lane, over + 3, over - 1, -over + 7, over / 2, -over, 5 - 4 * over, Long.MAX_VALUE, Long.MIN_VALUE);
                dueItems(x, 0, lane, 3, NOT, 7, NOT, 0, 5, NOT, 0);
                put(x, 1, lane + 1, over + 3, over, 7);
                dueItems(x, 1, lane + 1, NOT, NOT, 7);
            }
            MouthFrames x = withWords();
            put(x, 0, 3, Long.MIN_VALUE, Long.MAX_VALUE, 1L << 32, 7, -1, 8);
            dueItems(x, 0, 3, NOT, NOT, NOT, 7, NOT, NOT);
            t.due("the answer", x.item(0, 3, 0, 2), 1);
            dueItems(x, 0, 3, 2, NOT, NOT, 7, NOT, NOT);
        });
        t.holds("32", "BAD; NULL; CAST; INDEX.", () -> {
            MouthFrames x = withWords();
            put(x, 3, 3, 6);
            for (int v : NO_SHEETS) t.due("sheet " + v, x.item(v, 3, 0, 0), BAD);
            for (int v : NO_SHEETS) t.due("lane " + v, x.item(3, v, 0, 0), BAD);
            t.due("nothing", x.item(2, 3, 0, 0), NULL);
            t.due("another LANE", x.item(3, 2, 0, 0), CAST);
            t.due("behind the last", x.item(3, 3, 1, 0), INDEX);
            dueItems(x, 3, 3, 6);
        });
        t.holds("32", "Item i of a SHEET, taken as a row of a LANE", () -> {
            MouthFrames x = withWords();
            put(x, 2, 1, 4, 5, 6);
            for (int i : new int[] {-1, 3, MIN, MAX}) t.due("item " + i, x.item(2, 1, i, 0), INDEX);
            for (int lane : new int[] {0, 2, 3}) t.due("lane " + lane, x.item(2, lane, 0, 0), CAST);
            t.due("the first", x.item(2, 1, 0, 1), 1);
            t.due("the last", x.item(2, 1, 2, 3), 1);
            dueItems(x, 2, 1, 1, 5, 3);
        });
    }

    private static void seens() {
        t.holds("28", "WORDS (a set: bits) whose LOOK is n items (1 .. 6) of a SHEET taken as a row of a LANE", () -> {
            MouthFrames x = withWords();
            put(x, 0, 2, 0, 7, 3, 3, 3, 3, 3);
            t.due("the first WORD", x.seen(0, 2, 0, 1), 1);
            t.due("the last WORD", x.seen(0, 2, 1, 1), 128);
            t.due("none", x.seen(0, 2, 0, 2), 0);
            t.due("6 items", x.seen(0, 2, 1, 6), 0);
            for (int n : new int[] {0, 7, -1, MIN, MAX}) t.due("n " + n, x.seen(0, 2, 0, n), BAD);
            for (int s = 0; s < 8; s++) x.sign(s, 3, 1);
            t.due("all WORDS", x.seen(0, 2, 2, 5), 255);
            t.due("of no WORDS", sheetOf(new MouthFrames(), 0).seen(0, 0, 0, 1), 0);
        });
        t.holds("28", "from item i on, the same one next to itself told once.", () -> {
            MouthFrames x = Sentences.after("word 1:a", "word 1:ab", "word 1:aba", "word 1:ababab", "word 1:b");
            put(x, 1, 0, 0, 0, 1, 1, 0, 1, 0, 1, 0, 0, 0, 0, 0);
            t.due("0 0", x.seen(1, 0, 0, 2), 1);
            t.due("0 0 1 1", x.seen(1, 0, 0, 4), 2);
            t.due("0 0 1 1 0", x.seen(1, 0, 0, 5), 4);
            t.due("1 1", x.seen(1, 0, 2, 2), 16);
            t.due("1 0 1 0", x.seen(1, 0, 3, 4), 0);
            t.due("0 1 0 1", x.seen(1, 0, 4, 4), 0);
            t.due("0 0 0 0 0", x.seen(1, 0, 8, 5), 1);
            x.item(1, 0, 3, 0);
            x.item(1, 0, 4, 1);
            x.item(1, 0, 5, 0);
            x.item(1, 0, 6, 1);
            t.due("0 1 0 1 0 1: 1 ahead of them", x.seen(1, 0, 1, 6), 8);
        });
        t.holds("28", "BAD; NULL; CAST; INDEX; NOT: an item is no SHAPE.", () -> {
            MouthFrames x = withWords();
            put(x, 0, 3, 7, 8, 0, -1, 1L << 32, 5);
            t.due("8", x.seen(0, 3, 1, 1), NOT);
            t.due("-1", x.seen(0, 3, 3, 1), NOT);
            t.due("2 to the 32nd", x.seen(0, 3, 4, 1), NOT);
            t.due("the first of two", x.seen(0, 3, 1, 2), NOT);
            t.due("the second of two", x.seen(0, 3, 0, 2), NOT);
            t.due("the second of two, below 0", x.seen(0, 3, 2, 2), NOT);
            t.due("the last of three, far above", x.seen(0, 3, 2, 3), NOT);
            t.due("not the one behind", x.seen(0, 3, 0, 1), 128);
            t.due("not the one ahead", x.seen(0, 3, 2, 1), 1);
            t.due("up to the last", x.seen(0, 3, 5, 1), 32);
            for (int i : new int[] {-1, 6, 7, MIN, MAX}) t.due("from " + i, x.seen(0, 3, i, 1), INDEX);
            t.due("one too many", x.seen(0, 3, 5, 2), INDEX);
            t.due("from the greatest", x.seen(0, 3, MAX, 6), INDEX);
            t.due("from the greatest less 5", x.seen(0, 3, MAX - 5, 6), INDEX);
        });
    }

    private static MouthFrames sheetOf(MouthFrames x, int lane) {
        x.sheet(0, lane, 1);
        return x;
    }

    private static void films() {
        t.holds("29", "How many FRAMES each SOUND has, as LENT, an item each, comes to a SHEET likewise: how many SOUNDS.", () -> {
            MouthFrames x = withWords();
            put(x, 0, 0, 7, 7, 7, 7, 7);
            Sentences.text(x, "say b8,a1,b12");
            t.due("from 0", x.film(0, 0, 0), 3);
            dueItems(x, 0, 0, 1, 1, 3, 7, 7);
            t.due("up to the end", x.film(0, 0, 2), 3);
            dueItems(x, 0, 0, 1, 1, 1, 1, 3);
            Sentences.text(x, "say c1");
            t.due("one without FRAME", x.film(0, 0, 4), 1);
            dueItems(x, 0, 0, 1, 1, 1, 1, 0);
            Sentences.text(x, "say a1,b1,c1,d1,e1,f1,g1,h1,i1,j1,k1,l1");
            x.sheet(0, 3, 12);
            t.due("12 SOUNDS in 12 items", x.film(0, 3, 0), 12);
            t.due("12 SOUNDS from 1", x.film(0, 3, 1), INDEX);
        });
        t.holds("29", "BAD; NULL; CAST; INDEX", () -> {
            MouthFrames x = withWords();
            put(x, 0, 1, 6);
            Sentences.text(x, "say b4");
            for (int v : NO_SHEETS) t.due("sheet " + v, x.film(v, 1, 0), BAD);
            for (int v : NO_SHEETS) t.due("lane " + v, x.film(0, v, 0), BAD);
            t.due("nothing", x.film(1, 1, 0), NULL);
            for (int lane : new int[] {0, 2, 3}) t.due("lane " + lane, x.film(0, lane, 0), CAST);
            t.due("behind the last", x.film(0, 1, 1), INDEX);
            dueItems(x, 0, 1, 6);
        });
        t.holds("29", "INDEX (of none, too: i below 0, or above how many there are).", () -> {
            MouthFrames x = withWords();
            put(x, 0, 2, 7, 7);
            t.due("of none from 0", x.film(0, 2, 0), 0);
            t.due("of none from 2", x.film(0, 2, 2), 0);
            for (int i : new int[] {-1, 3, MIN, MAX}) t.due("of none from " + i, x.film(0, 2, i), INDEX);
            Sentences.text(x, "say b4,b8");
            for (int i : new int[] {-1, 1, 2, 3, MIN, MAX, MAX - 1}) t.due("of two from " + i, x.film(0, 2, i), INDEX);
            dueItems(x, 0, 2, 7, 7);
            x.sheet(1, 2, 0);
            t.due("to no items", x.film(1, 2, 0), INDEX);
            Sentences.text(x, "say b4");
            x.out(0);
            t.due("none to no items", x.film(1, 2, 0), 0);
            t.due("none behind no items", x.film(1, 2, 1), INDEX);
        });
    }

    private static void copies() {
        t.holds("33", "n items of a SHEET from i on come to another one (or the same) from j on, as if all were taken ahead: n.", () -> {
            MouthFrames x = withWords();
            put(x, 0, 1, 0, 1, 2, 3, 4);
            t.due("up by one", x.copy(0, 0, 0, 1, 4), 4);
            dueItems(x, 0, 1, 0, 0, 1, 2, 3);
            t.due("down by one", x.copy(0, 1, 0, 0, 4), 4);
            dueItems(x, 0, 1, 0, 1, 2, 3, 3);
            t.due("to where they are", x.copy(0, 0, 0, 0, 5), 5);
            dueItems(x, 0, 1, 0, 1, 2, 3, 3);
            put(x, 1, 1, 7, 7, 7);
            t.due("to another one", x.copy(0, 3, 1, 0, 2), 2);
            dueItems(x, 1, 1, 3, 3, 7);
            dueItems(x, 0, 1, 0, 1, 2, 3, 3);
            t.due("all of the other one", x.copy(1, 0, 0, 2, 3), 3);
            dueItems(x, 0, 1, 0, 1, 3, 3, 7);
        });
        t.holds("33", "BAD; NULL (either)", () -> {
            MouthFrames x = new MouthFrames();
            x.sheet(0, 0, 2);
            for (int v : NO_SHEETS) t.due("from " + v, x.copy(v, 0, 0, 0, 1), BAD);
            for (int v : NO_SHEETS) t.due("to " + v, x.copy(0, 0, v, 0, 1), BAD);
            t.due("from nothing", x.copy(3, 0, 0, 0, 1), NULL);
            t.due("to nothing", x.copy(0, 0, 3, 0, 1), NULL);
            t.due("from something", x.copy(0, 0, 0, 1, 1), 1);
        });
        t.holds("33", "NULL (either); CAST: of unlike LANES", () -> {
            MouthFrames x = new MouthFrames();
            x.sheet(0, 0, 2);
            x.sheet(1, 1, 2);
            t.due("to nothing", x.copy(0, 0, 2, 0, 1), NULL);
            t.due("from nothing", x.copy(2, 0, 0, 0, 1), NULL);
            t.due("nothing to nothing", x.copy(2, 0, 3, 0, 0), NULL);
            t.due("nothing to itself", x.copy(2, 0, 2, 0, 0), NULL);
            t.due("of unlike LANES", x.copy(0, 0, 1, 0, 1), CAST);
            t.due("none of unlike LANES", x.copy(1, 0, 0, 0, 0), CAST);
        });
        t.holds("33", "INDEX (n below 0, too; of n 0, too, if i or j is below 0 or above how many there are).", () -> {
            MouthFrames x = withWords();
            put(x, 0, 2, 1, 2, 3, 4);
            put(x, 1, 2, 5, 6);
            for (int n : new int[] {-1, MIN, 3, MAX}) t.due("n " + n, x.copy(0, 0, 1, 0, n), INDEX);
            t.due("none at the ends", x.copy(0, 4, 1, 2, 0), 0);
            t.due("none at the starts", x.copy(0, 0, 1, 0, 0), 0);
            for (int i : new int[] {-1, 5, MIN, MAX}) t.due("none from " + i, x.copy(0, i, 1, 0, 0), INDEX);
            for (int j : new int[] {-1, 3, MIN, MAX}) t.due("none to " + j, x.copy(0, 0, 1, j, 0), INDEX);
            for (int i : new int[] {-1, 3, 4, MAX, MAX - 1}) t.due("two from " + i, x.copy(0, i, 1, 0, 2), INDEX);
            for (int j : new int[] {-1, 1, 2, MAX, MAX - 1}) t.due("two to " + j, x.copy(0, 0, 1, j, 2), INDEX);
            t.due("n below 0, i as far behind", x.copy(0, 1, 1, 1, -1), INDEX);
            dueItems(x, 0, 2, 1, 2, 3, 4);
            dueItems(x, 1, 2, 5, 6);
            t.due("two up to both ends", x.copy(0, 2, 1, 0, 2), 2);
            dueItems(x, 1, 2, 3, 4);
        });
    }

    public static void main(String[] args) {
        rows();
        items();
        seens();
        films();
        copies();
        t.end(args);
    }
}
