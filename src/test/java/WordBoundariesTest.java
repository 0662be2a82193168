/** The sentences on words, texts, undoing, draws, images (==== 3, promises 17 to 27) that name a boundary. */
public final class WordBoundariesTest {
    private static final int BAD = Sentences.BAD, NOT = Sentences.NOT, FULL = Sentences.FULL, NONE = Sentences.NONE;
    private static final int MIN = Sentences.MIN, MAX = Sentences.MAX;
    private static final String TWELVE = "say a1,b1,c1,d1,e1,f1,g1,h1,i1,j1,k1,l1";
    private static final Sentences t = new Sentences("words, what is done");

    interface Calls {
        void on(MouthFrames x);
    }

    private static MouthFrames after(String... texts) {
        return Sentences.after(texts);
    }

    private static int text(MouthFrames x, String text) {
        return Sentences.text(x, text);
    }

    private static long[] words(MouthFrames x, int what) {
        return Sentences.words(x, what);
    }

    private static long[] sounds(MouthFrames x, int what) {
        return Sentences.sounds(x, what);
    }

    /** Texts with the answers due, each on a new object. */
    private static void dueTexts(Object... textsAndAnswers) {
        for (int k = 0; k < textsAndAnswers.length; k += 2) {
            String text = (String) textsAndAnswers[k];
            t.due("'" + text + "'", text(new MouthFrames(), text), (Integer) textsAndAnswers[k + 1]);
        }
    }

    /** Texts with the place of their FAULT, each on a new object. */
    private static void dueFaults(Object... textsAndPlaces) {
        for (int k = 0; k < textsAndPlaces.length; k += 2) {
            String text = (String) textsAndPlaces[k];
            t.due("FAULT of '" + text + "'", text(new MouthFrames(), text), -20 - (Integer) textsAndPlaces[k + 1]);
        }
    }

    private static MouthFrames eightWords() {
        return after("word 1:a", "word 2:b", "word 3:c", "word 4:d", "word 5:e", "word 6:f", "word 7:g", "word 8:h");
    }

    private static void list() {
        t.holds("==== 3", "THE LIST: WORDS 0 on (8 at most, none at first), as they came", () -> {
            t.due("none at first", new MouthFrames().count(9), 0);
            t.due("word 0 of none", new MouthFrames().word(0, 0), BAD);
            MouthFrames x = eightWords();
            t.due("8 of them", x.count(9), 8);
            t.due("a 9th", text(x, "word 9:i"), FULL);
            t.dueRow("as they came", words(x, 0), 1, 2, 3, 4, 5, 6, 7, 8);
            x.forget(0);
            t.due("an 8th again", text(x, "word 9:a"), 8);
            t.dueRow("the new one is the last", words(x, 0), 2, 3, 4, 5, 6, 7, 8, 9);
            t.due("a 9th again", text(x, "word 9:i"), FULL);
        });
        t.holds("==== 3", "1 .. 6 SIGNS each, no two the same, with a WEIGHT 1 .. 9.", () -> {
            dueTexts("word 1:a", 1, "word 9:abcdef", 1, "word 0:a", -25, "word 1:", -27, "word 1:abcdefg", -33);
            MouthFrames x = after("word 1:ab");
            t.due("the same", text(x, "word 1:ab"), NOT);
            t.due("another order", text(x, "word 1:ba"), 2);
            t.due("less", text(x, "word 1:a"), 3);
            t.due("more", text(x, "word 1:abb"), 4);
            t.due("SIGNS of the same SHAPES", text(x, "word 1:ij"), 5);
            t.due("a SIGN twice", text(x, "word 1:aa"), 6);
            t.due("the last one again", text(x, "word 1:aa"), NOT);
            x.forget(0);
            t.due("it isn't there then", text(x, "word 1:ab"), 6);
        });
        t.holds("==== 3", "A WORD's LOOK: SHAPES of its SIGNS, one behind the other, the same one next to itself told once.", () -> {
            MouthFrames x = after("word 1:b", "word 1:bbbbbb", "word 1:bj", "word 1:bcb", "word 1:bcbcbc", "word 1:bccccb", "word 1:aaab");
            t.dueRow("lengths", words(x, 2), 1, 1, 1, 3, 6, 3, 2);
            x.sign(2, 1, 1);
            t.dueRow("lengths by a SIGN's other SHAPE", words(x, 2), 1, 1, 1, 1, 1, 1, 2);
        });
        t.holds("==== 3", "WORDS are ALIKE, if their LOOKS are the same.", () -> {
            MouthFrames x = after("word 1:a", "word 1:ab", "word 1:ba", "word 1:aba", "word 1:iijj", "word 1:i", "word 1:b");
            t.dueRow("how many", words(x, 3), 2, 2, 1, 1, 2, 2, 1);
            t.dueRow("the least", words(x, 4), 0, 1, 2, 3, 1, 0, 6);
        });
        t.holds("==== 3", "GUESS: the WEIGHTS of those that have the greatest one of all that are ALIKE with them (of like ones the least number), together, by all WEIGHTS.", () -> {
            dueGuess(after("word 9:a"), 1, 1);
            dueGuess(after("word 4:a", "word 4:i"), 1, 2);
            dueGuess(after("word 4:a", "word 4:i", "word 4:aa"), 1, 3);
            dueGuess(after("word 4:a", "word 5:i"), 5, 9);
            dueGuess(after("word 5:a", "word 4:i"), 5, 9);
            dueGuess(after("word 5:a", "word 4:i", "word 3:b"), 2, 3);
            dueGuess(eightWords(), 1, 1);
            MouthFrames x = eightWords();
            for (int s = 0; s < 8; s++) x.sign(s, 0, 2);
            dueGuess(x, 2, 9);
        });
    }

    private static void dueGuess(MouthFrames x, long above, long below) {
        t.duePart("guess", x.guess(0), x.guess(1), above, below);
    }

    private static void kindsOfTexts() {
        t.holds("==== 3", "A TEXT is one of these, a NAME (letters a .. z in a row) first", () -> {
            dueTexts("say a1", 1, "word 1:a", 1, "frame 1/1", 41, "window 0", 1, "", -20, "say", -23, "a1", -20, "1", -20, "zzz", -20);
            dueTexts("say a1 word 1:a", -27, "window 0 window 1", -29, "frame 1/1 frame 2/1", -30, "word 1:a say b1", -29);
        });
        t.holds("==== 3", "say, then SOUNDS with , between, one at least: a letter a .. l, a number (TIME) (as say a3,b12): that's THE LINE then", () -> {
            dueTexts("say a3,b12", 2, "say l1", 1, TWELVE, 12, "say", -23, "say ", -24, "say ,", -24, "say a1,", -27, "say a1,,b1", -27, "say a1b1", -26);
            dueTexts("say m1", -24, "say a:", -25, "say a/", -25, "say a", -25, "say a,b1", -25, "say 1", -24, "say a1;b1", -26, "say `1", -24, "say aa1", -25);
            MouthFrames x = after(TWELVE, "say c12");
            t.dueRow("THE LINE then", sounds(x, 0), 2);
            t.dueRow("its TIMES", sounds(x, 1), 12);
        });
        t.holds("==== 3", "word, then a figure 1 .. 9 (WEIGHT), the sign : , 1 .. 6 letters a .. l in a row (as word 5:abc): a WORD more of THE LIST", () -> {
            dueTexts("word 5:abc", 1, "word 1:l", 1, "word 9:a", 1, "word", -24, "word:a", -24, "word a", -25, "word 0:a", -25, "word 10:a", -26);
            dueTexts("word 5", -26, "word 5a", -26, "word 5;a", -26, "word /:a", -25, "word ::a", -25, "word 5:", -27, "word 5::a", -27, "word 5:`", -27, "word 5:1", -27, "word 5:a,b", -28, "word 5:m", -27);
            t.due("SIGNS", after("word 5:lka").letter(0, 0), 11);
        });
        t.holds("==== 3", "frame, then a number (a), the sign / , a figure 1 or 2 (b) (as frame 4/1)", () -> {
            dueTexts("frame 4/1", NOT, "frame 1/2", 41, "frame 12/2", 41, "frame 01/1", 41, "frame", -25, "frame /1", -26, "frame 4", -27, "frame 4:1", -27);
            dueTexts("frame 4/", -28, "frame 4/0", -28, "frame 4/3", -28, "frame //1", -26, "frame :/1", -26, "frame 1:/1", -27, "frame 4//", -28, "frame 4/01", -28, "frame 4/12", -29, "frame 4/1/", -29, "frame 0/1", -26);
        });
        t.holds("==== 3", "window, then a figure 0 .. 3.", () -> {
            dueTexts("window 0", 1, "window 1", NOT, "window 3", 1, "window 4", -27, "window", -26, "window a", -27, "window 03", -28, "window 3,", -28, "window /", -27, "window :", -27);
        });
        t.holds("==== 3", "A number is one or two figures (03 is 3), 1 .. 12.", () -> {
            t.dueRow("TIMES", sounds(after("say a3,b03,c1,d01,e9,f09,g10,h12"), 1), 3, 3, 1, 1, 9, 9, 10, 12);
            dueTexts("say a0", -25, "say a00", -25, "say a13", -25, "say a20", -25, "say a99", -25, "say a001", -25, "say a003", -25);
            dueTexts("frame 012/1", -28, "frame 13/1", -26, "frame 00/1", -26, "frame 12/1", 41);
        });
    }

    private static void faults() {
        t.holds("==== 3", "A FAULT is the first letter (behind blanks) that can't stand there", () -> {
            dueFaults(" say  x", 6, "say a1  x", 8, "say a1 , x", 9, "   word 0", 8, "say x,y", 4, "frame 4 x1", 8, "window  9", 8, "word 1 : x", 9);
            dueFaults("say A1", 4, "say a1.", 6, "say ~", 4, "word 1:A", 7);
        });
        t.holds("==== 3", "a letter of a 13th SOUND", () -> {
            int end = TWELVE.length();
            dueFaults(TWELVE + ",a1", end + 1, TWELVE + " , a1", end + 3, TWELVE + ",m1", end + 1, TWELVE + ",", end + 1, TWELVE + ",1", end + 1);
            dueFaults(TWELVE + " a1", end + 1, TWELVE + ", ", end + 2);
            dueTexts(TWELVE + " ", 12);
        });
        t.holds("==== 3", "a 7th one of a WORD", () -> {
            dueFaults("word 1:abcdefa", 13, "word 1:abcdef a", 14, "word 1:abcdefm", 13, "word 1: abcdefab", 14);
            dueTexts("word 1:abcdef ", 1, "word 1:aaaaaa", 1);
        });
        t.holds("==== 3", "a letter behind l in a WORD", () -> {
            dueFaults("word 1:m", 7, "word 1:z", 7, "word 1:am", 8, "word 1:abcdem", 12, "word 1:lm", 8);
        });
        t.holds("==== 3", "the end: how many letters there are", () -> {
            dueFaults("", 0, "  ", 2, "say", 3, "say  ", 5, "say a", 5, "say a ", 6, "say a1,", 7, "say a1, ", 8);
            dueFaults("word", 4, "word 1", 6, "word 1:", 7, "word 1: ", 8, "frame", 5, "frame 12", 8, "frame 4/", 8, "window ", 7);
            MouthFrames x = new MouthFrames();
            for (int k = 0; k < 90; k++) x.type(' ');
            t.due("90 blanks", x.read(), -110);
        });
        t.holds("==== 3", "of a number that by its first two figures (or one, if there is no second one) is not 1 .. 12 its first figure, else a third figure", () -> {
            dueFaults("say a0", 5, "say a 0", 6, "say a00", 5, "say a13", 5, "say a130", 5, "say a0,b1", 5, "say a0 3", 5, "say a0x", 5, "say a99", 5);
            dueFaults("say a123", 7, "say a012", 7, "say a100", 7, "say a1 23", 7, "say b1,a013", 10, "say a13,m1", 5);
            dueFaults("frame 0/1", 6, "frame 13/9", 6, "frame 123/1", 8, "frame 000/1", 6);
            dueTexts("say a12", 1, "say a1", 1, "say a01", 1);
        });
        t.holds("==== 3", "of a NAME that is none of these four its first letter (or what stands there, if that is no letter)", () -> {
            dueFaults("sa a1", 0, " sayy a1", 1, "saya1", 0, "  wordd 1:a", 2, "wor 1:a", 0, "frames 4/1", 0, "windo 1", 0, "x", 0, "windowa", 0);
            dueFaults("cay a1", 0, "sat a1", 0, "lord 1:a", 0, "wore 1:a", 0, "brame 4/1", 0, "framf 4/1", 0, "mindow 1", 0, "windox 1", 0);
            dueFaults("3", 0, " ,say a1", 1, "  Say a1", 2, ":", 0, " ~", 1, "{say", 0, "`say", 0);
            dueFaults("sayA1", 3, "say,", 3, "frame{", 5);
        });
        t.holds("==== 3", "Blanks count for nothing, but end a NAME, a number, the letters of a WORD.", () -> {
            dueTexts("  say  a  1  ,  b  12  ", 2, "say a1", 1, "word5:abc", 1, " word  5  :  abc  ", 1, "frame4/2", 41, " frame  4  /  2 ", 41);
            dueTexts("window3", 1, " window  3 ", 1, "sayA", -23);
            dueFaults("sa y a1", 0, "say a1 2", 7, "word 1:ab c", 10, "frame 1 2/1", 8, "wor d 1:a", 0);
            MouthFrames x = new MouthFrames();
            Sentences.type(x, "window 3");
            for (int k = 8; k < 90; k++) x.type(' ');
            t.due("90 letters, most of them blanks", x.read(), 1);
        });
    }

    private static void undone() {
        t.holds("==== 3", "UNDONE: the latest of a SHAPE, a SIGN told, a SOUND, a WORD more, one out, FRAME, WINDOW told", () -> {
            MouthFrames x = after("word 1:a", "say b4");
            x.shape(0, 3, 3);
            t.due("SHAPE", x.undo() + 100 * x.told(0, 2), 2);
            x.sign(0, 1, 1);
            t.due("SIGN", x.undo() + 100 * x.told(0, 0), 2);
            x.sound(3, 1);
            t.due("SOUND more", x.undo() + 100 * x.count(0), 102);
            text(x, "word 1:b");
            t.due("WORD more", x.undo() + 100 * x.count(9), 102);
            x.out(0);
            t.due("SOUND out", x.undo() + 100 * x.count(0), 102);
            t.due("the SOUND is there", x.sounds(0, 1), 4);
            x.forget(0);
            t.due("WORD out", x.undo() + 100 * x.count(9), 102);
            t.due("the WORD is there", x.letter(0, 0), 0);
            x.frame(1, 2);
            t.due("FRAME", x.undo() + 100 * x.frame(4, 1), 2 + 100 * NOT);
            x.window(3);
            t.due("WINDOW", x.undo() + 100 * x.count(8), 102);
            MouthFrames y = after("word 7:abc", "word 8:d", "word 9:ef", "say b1,c2,d3");
            y.out(0);
            y.undo();
            t.dueRow("all SIGNS of SOUNDS", sounds(y, 0), 1, 2, 3);
            t.dueRow("all TIMES", sounds(y, 1), 1, 2, 3);
            y.forget(0);
            y.undo();
            t.dueRow("all WEIGHTS", words(y, 0), 7, 8, 9);
            t.dueRow("how many letters", words(y, 1), 3, 1, 2);
            for (int k = 0; k < 3; k++) t.due("letter " + k, y.letter(0, k), k);
            t.due("the last WORD's letter", y.letter(2, 1), 5);
            y.shape(5, 1, 2);
            y.undo();
            t.due("OPEN", y.told(5, 2), 5);
            t.due("WIDE", y.told(5, 3), 7);
        });
        t.holds("==== 3", "is as ahead of it", () -> {
            // THE DRAW told by seed() stands ahead of each call, and is there when that is UNDONE
            MouthFrames x = after("word 1:a", "say b1");
            Calls[] all = {
                y -> y.shape(0, 3, 3), y -> y.sign(0, 1, 1), y -> y.sound(3, 1), y -> y.out(0), y -> y.frame(1, 2), y -> y.window(3),
                y -> y.forget(0), y -> text(y, "word 1:b"), y -> text(y, "say c1,d1"), y -> text(y, "frame 1/2"), y -> text(y, "window 0"),
                y -> y.drift(1),
            };
            for (int k = 0; k < all.length; k++) {
                x.seed(100 + k);
                all[k].on(x);
                t.due("known, call " + k, x.count(10), 3);
                x.seed(5);
                t.due("undo of call " + k, x.undo(), 2);
                t.due("THE DRAW ahead of call " + k, x.seed(0), 100 + k);
            }
            // what is asked then is asked of what stood ahead
            MouthFrames z = after("frame 1/1", "say h2,b2", "say b1");
            z.undo();
            t.due("sounds", z.sounds(1, 2), 2);
            t.due("at", z.at(3, 0), 1);
            t.due("count", z.count(1), 4);
            t.due("pulled", z.pulled(1, 0, 0), 5);
            t.due("smooth", z.smooth(0, 0, 0), 11);
            t.due("jump", z.jump(0, 1), 1);
            t.due("calm", z.calm(0, 0), 3);
            t.due("off", z.off(1, 0), 0);
        });
        t.holds("==== 3", "of a TEXT by which something was told", () -> {
            MouthFrames x = after("word 1:a", "say b4", "frame 3/1", "window 0");
            t.due("each is known", x.count(10), 4);
            for (String nothing : new String[] {"word 2:a", "frame 3/1", "window 0", "say", "word 1:m", "", "window 9"}) text(x, nothing);
            t.due("by which nothing was told", x.count(10), 4);
            x.undo();
            t.due("WINDOW", x.count(8), 1);
            x.undo();
            t.due("FRAME", x.frame(4, 1), NOT);
            x.undo();
            t.due("THE LINE", x.count(0), 0);
            x.undo();
            t.due("THE LIST", x.count(9), 0);
        });
        t.holds("==== 3", "a turn of a DRIFT, is as it had not been", () -> {
            MouthFrames x = new MouthFrames();
            x.drift(3);
            t.due("the third turn", x.undo(), 2);
            t.due("THE DRAW of two", x.seed(377401575), 377401575);
            t.due("the second turn", x.undo(), 1);
            t.due("THE DRAW of one", x.seed(1103527590), 1103527590);
            t.due("frame(5, 2) of the first", x.frame(5, 2), NOT);
            t.due("the first turn", x.undo(), 0);
            t.due("THE DRAW at first", x.seed(1), 1);
            t.due("FRAME at first", x.frame(4, 1), NOT);
        });
        t.holds("==== 3", "(6 are known, older ones lost)", () -> {
            MouthFrames x = new MouthFrames();
            for (int k = 0; k < 6; k++) x.sound(k, 1);
            t.due("6 known", x.count(10), 6);
            x.sound(6, 1);
            t.due("6 of 7", x.count(10), 6);
            for (int left = 5; left >= 0; left--) {
                t.due("undo", x.undo(), left);
                t.due("SOUNDS ahead of it", x.count(0), left + 1);
            }
            t.due("the oldest is lost", x.undo(), NONE);
            t.due("it stays", x.count(0), 1);
            x.drift(40);
            t.due("6 of 40 turns", x.count(10), 6);
            x.undo();
            x.window(x.count(8) == 3 ? 2 : 3);
            t.due("6 again", x.count(10), 6);
            t.due("nothing lost by one undone", x.undo(), 5);
        });
        t.holds("==== 3", "all but SHEETS, THE TAPE, IMAGES is as ahead of it, whatever was told since.", () -> {
            MouthFrames x = new MouthFrames();
            x.image();
            x.window(2);
            x.seed(9);
            x.sheet(1, 2, 5);
            x.type('w');
            x.image();
            t.due("undo()", x.undo(), 0);
            t.due("THE DRAW", x.seed(1), 1);
            t.due("THE TAPE", x.type('o'), 2);
            t.due("SHEETS", x.drop(1), 5);
            t.due("the IMAGE is there", x.restore(), 1);
            t.due("it's the later one", x.count(8), 2);
            t.due("with THE DRAW of then", x.seed(0), 9);
        });
    }

    /** One turn of a new object: what a call with what it must have told answers then. */
    private static MouthFrames turned(int x) {
        MouthFrames m = new MouthFrames();
        Sentences.turn(m, x);
        return m;
    }

    private static void dueSound(int x, int sign, int time) {
        MouthFrames m = turned(x);
        t.due("x " + x + ", SOUNDS", m.count(0), 1);
        t.due("x " + x + ", SIGN", m.sounds(0, 0), sign);
        t.due("x " + x + ", TIME", m.sounds(0, 1), time);
    }

    private static void draws() {
        t.holds("==== 3", "THE DRAW is a number of 31 bits (1 at first)", () -> {
            t.due("at first", new MouthFrames().seed(1), 1);
            MouthFrames x = new MouthFrames();
            t.due("the greatest", x.seed(MAX), 1);
            t.due("it's kept whole", x.seed(0), MAX);
            x.drift(40);
            t.due("never below 0", x.seed(0) < 0 ? 1 : 0, 0);
        });
        t.holds("==== 3", "for each turn it becomes the lowest 31 bits of itself times 1103515245 and 12345 more", () -> {
            MouthFrames x = new MouthFrames();
            x.drift(1);
            t.due("of 1", x.seed(0), 1103527590);
            x.drift(1);
            t.due("of 0", x.seed(1103527590), 12345);
            x.drift(1);
            t.due("of 1103527590", x.seed(MAX), 377401575);
            x.drift(1);
            // itself is 1 less than 0 by 31 bits
            t.due("of the greatest", x.seed(1 << 30), 12345L - 1103515245L + (1L << 31));
            x.drift(1);
            // the highest bit stays, as the factor is odd
            t.due("of the highest bit", x.seed(1), (1L << 30) + 12345);
        });
        t.holds("==== 3", "x is it by 65536 (cut), p x by 8 (cut) left over by 12, q (x by 128, cut) left over by 12.", () -> {
            for (int drawn : new int[] {7, 15, 23, 31, 39, 32767}) {
                MouthFrames x = new MouthFrames();
                MouthFrames y = new MouthFrames();
                Sentences.turn(x, drawn);
                Sentences.turnFromAbove(y, drawn);
                t.due("x " + drawn + ", the least DRAW", x.count(8), drawn / 8 % 12 % 4);
                t.due("x " + drawn + ", the greatest DRAW", y.count(8), drawn / 8 % 12 % 4);
                t.due("x " + drawn, y.seed(0), drawn * 65536L + 65535);
            }
            dueSound(90, 11, 1);
            dueSound(8 * 12, 0, 1);
            dueSound(120, 3, 1);
            dueSound(128, 4, 2);
            dueSound(1528, 11, 12);
            dueSound(1536, 0, 1);
        });
        t.holds("==== 3", "x left over by 8 is 0, 1, 2: sound(p, q and 1)", () -> {
            dueSound(0, 0, 1);
            dueSound(1, 0, 1);
            dueSound(2, 0, 1);
            dueSound(8 * 11 + 2, 11, 1);
            dueSound(8 * 12, 0, 1);
            dueSound(8 * 179 + 1, 11, 12);
            dueSound(8 * 192, 0, 1);
            // 32762: 4095 left over by 12 is 3, 255 too
            dueSound(32762, 3, 4);
        });
        t.holds("==== 3", "3: sign(p, q left over by 8, (x by 2048, cut) left over by 6)", () -> {
            MouthFrames x = turned(10240 + 3);
            t.due("sign(8, 0, 5)", x.sign(8, 0, 5), NOT);
            x = turned(12288 + 3);
            t.due("sign(0, 0, 0)", x.sign(0, 0, 0), NOT);
            x = turned(32763);
            t.due("sign(3, 3, 3)", x.sign(3, 3, 3), NOT);
            // 1411: 176 left over by 12 is 8, 11 by 8 is 3
            x = turned(1411);
            t.due("sign(8, 3, 0)", x.sign(8, 3, 0), NOT);
        });
        t.holds("==== 3", "4: shape(p left over by 8, q, (x by 2048, cut) left over by 13)", () -> {
            t.due("shape(0, 0, 0)", turned(4).shape(0, 0, 0), NOT);
            t.due("shape(4, 4, 0)", turned(26624 + 4).shape(4, 4, 0), NOT);
            t.due("shape(0, 11, 0)", turned(1412).shape(0, 11, 0), NOT);
            t.due("shape(3, 0, 0)", turned(92).shape(3, 0, 0), NOT);
            // x by 2048 is 12 there: 24580 by 8 is 3072, 0 by 12; by 128 is 192, 0 by 12: SHAPE 0 is so
            t.due("shape(0, 0, 12)", turned(24580).shape(0, 0, 12), NOT);
            MouthFrames x = new MouthFrames();
            x.shape(0, 1, 1);
            Sentences.turn(x, 24580);
            t.due("shape(0, 0, 12) told", x.shape(0, 0, 12), NOT);
        });
        t.holds("==== 3", "5: out(p); 6: frame(p and 1, q left over by 2, and 1); 7: window(p left over by 4).", () -> {
            MouthFrames x = after(TWELVE);
            t.due("out(11)", Sentences.turn(x, 93), 11);
            t.due("the last is out", x.sounds(10, 0), 10);
            t.due("out(0)", Sentences.turn(x, 5), 10);
            t.due("the first is out", x.sounds(0, 0), 1);
            t.due("frame(1, 1)", turned(6).frame(1, 1), NOT);
            t.due("frame(12, 1)", turned(94).frame(12, 1), NOT);
            t.due("frame(5, 2)", turned(134).frame(5, 2), NOT);
            t.due("window(0)", turned(7).count(8), 0);
            t.due("window(3)", turned(31).count(8), 3);
            t.due("window(0), p 4", turned(39).count(8), 0);
            t.due("window(3), p 11", turned(95).count(8), 3);
        });
        t.holds("==== 3", "(Nothing, if that is refused.)", () -> {
            MouthFrames x = after(TWELVE);
            t.due("a 13th SOUND", Sentences.turn(x, 0), 12);
            t.due("THE DRAW has gone on", x.seed(0) / 65536, 0);
            t.due("out of none", turned(5).count(0), 0);
            t.due("out behind the last", Sentences.turn(after("say a1,b1"), 5 + 8 * 2), 2);
            t.due("a FRAME that is so", turned(6 + 8 * 3).frame(4, 1), NOT);
            t.due("a WINDOW that is so", turned(7 + 8).count(8), 1);
            t.due("a SHAPE that is so", turned(24580).told(0, 3), 12);
            MouthFrames y = after("frame 1/1", "say b12,c12,d12,e12,f12,g12,h12,b12,c4");
            // q 1: frame(1, 2) would make 200 FRAMES
            t.due("101 FRAMES by a FRAME", Sentences.turn(y, 6 + 8 * 24), 9);
            t.due("the FRAME stays", y.frame(1, 1), NOT);
            t.due("101 FRAMES by a SOUND", Sentences.turn(y, 0), 9);
        });
    }

    private static void wordCalls() {
        t.holds("17", "A WORD is out: how many are left. BAD.", () -> {
            MouthFrames x = after("word 1:a", "word 2:bb", "word 3:ccc", "word 4:dddd");
            for (int j : new int[] {-1, 4, MIN, MAX}) t.due("forget " + j, x.forget(j), BAD);
            t.due("the first", x.forget(0), 3);
            t.dueRow("left", words(x, 0), 2, 3, 4);
            t.dueRow("their SIGNS", words(x, 1), 2, 3, 4);
            t.due("the last", x.forget(2), 2);
            t.dueRow("left then", words(x, 0), 2, 3);
            t.due("their letters", x.letter(1, 2), 2);
            x.forget(1);
            t.due("the only one", x.forget(0), 0);
            t.due("the answer 0 is known", x.count(10), 6);
            t.due("of none", x.forget(0), BAD);
        });
        t.holds("18", "Of a WORD: 0 WEIGHT, 1 how many SIGNS, 2 how many SHAPES its LOOK has, 3 how many WORDS are ALIKE with it (it, too), 4 the least number of these. BAD.", () -> {
            MouthFrames x = after("word 9:abcabc", "word 1:l");
            long[] want = {9, 6, 6, 1, 0};
            for (int k = 0; k < 5; k++) t.due("word(0, " + k + ")", x.word(0, k), want[k]);
            for (int k : new int[] {-1, 5, MIN, MAX}) t.due("what " + k, x.word(0, k), BAD);
            for (int j : new int[] {-1, 2, MIN, MAX}) t.due("word " + j, x.word(j, 0), BAD);
            MouthFrames y = eightWords();
            for (int s = 0; s < 8; s++) y.sign(s, 7, 1);
            t.due("all are ALIKE", y.word(7, 3), 8);
            t.due("the least of all", y.word(7, 4), 0);
        });
        t.holds("19", "SIGN k (0 on) of a WORD. BAD: also k below 0; NONE (there is none).", () -> {
            MouthFrames x = after("word 1:abcdel", "word 1:k");
            t.due("the first", x.letter(0, 0), 0);
            t.due("the last", x.letter(0, 5), 11);
            t.due("behind the last", x.letter(0, 6), NONE);
            t.due("behind the only one", x.letter(1, 1), NONE);
            t.due("far behind", x.letter(1, MAX), NONE);
            for (int k : new int[] {-1, MIN}) t.due("SIGN " + k, x.letter(0, k), BAD);
            for (int j : new int[] {-1, 2, MIN, MAX}) t.due("word " + j, x.letter(j, 9), BAD);
        });
        t.holds("20", "GUESS: above, below. BAD; NONE: no WORDS.", () -> {
            MouthFrames x = new MouthFrames();
            t.due("no WORDS, above", x.guess(0), NONE);
            t.due("no WORDS, below", x.guess(1), NONE);
            for (int k : new int[] {-1, 2, MIN, MAX}) t.due("what " + k, x.guess(k), BAD);
            text(x, "word 1:a");
            for (int k : new int[] {-1, 2, MIN, MAX}) t.due("what " + k + " of a WORD", x.guess(k), BAD);
            x.forget(0);
            t.due("no WORDS again", x.guess(0), NONE);
        });
    }

    private static void tape() {
        t.holds("21", "One letter more behind THE TAPE: how many it has. BAD: not 32 .. 126; FULL: 90.", () -> {
            MouthFrames x = new MouthFrames();
            for (int v : new int[] {31, 127, 0, -1, 10, 256 + 97, MIN, MAX}) t.due("letter " + v, x.type(v), BAD);
            t.due("letter 32", x.type(32), 1);
            t.due("letter 126", x.type(126), 2);
            for (int k = 3; k <= 90; k++) t.due("letter " + k, x.type(97), k);
            t.due("a 91st", x.type(97), FULL);
            t.due("a 91st again", x.type(97), FULL);
            x.read();
            t.due("the first again", x.type(97), 1);
        });
        t.holds("22", "THE TAPE, which is empty then (whatever is answered), is a TEXT", () -> {
            for (String text : new String[] {"window 3", "window 1", "say", "", "x", "word 1:m"}) {
                MouthFrames x = new MouthFrames();
                text(x, text);
                t.due("behind '" + text + "'", x.type(97), 1);
            }
            MouthFrames x = eightWords();
            t.due("FULL", text(x, "word 1:i"), FULL);
            t.due("behind FULL", x.type(97), 1);
            t.due("the fault of what is behind", x.read(), -20);
            t.due("read() again", x.read(), -20);
        });
        t.holds("22", "A FAULT: -20 less its place (all else stays)", () -> {
            MouthFrames x = after("say a1,b2", "word 3:ab");
            t.due("place 0", text(x, ""), -20);
            t.due("behind SOUNDS", text(x, "say c1,d1,m1"), -30);
            t.due("behind letters", text(x, "word 3:cdm"), -29);
            t.due("behind a FRAME", text(x, "frame 1/1 1"), -30);
            t.due("behind a WINDOW", text(x, "window 3 3"), -29);
            t.dueRow("THE LINE", sounds(x, 0), 0, 1);
            t.due("WORDS", x.count(9), 1);
            t.due("FRAME", x.frame(4, 1), NOT);
            t.due("WINDOW", x.count(8), 1);
            t.due("what may be UNDONE", x.count(10), 2);
        });
        t.holds("22", "NOT: the WORD is there (whatever its WEIGHT)", () -> {
            MouthFrames x = after("word 3:ab");
            t.due("the same WEIGHT", text(x, "word 3:ab"), NOT);
            t.due("another WEIGHT", text(x, "word 4:ab"), NOT);
            t.due("its WEIGHT stays", x.word(0, 0), 3);
        });
        t.holds("22", "FULL: 101 FRAMES (say), 8 WORDS (word; NOT ahead of FULL)", () -> {
            MouthFrames x = eightWords();
            t.due("a 9th", text(x, "word 1:i"), FULL);
            t.due("the first of 8", text(x, "word 1:a"), NOT);
            t.due("the last of 8", text(x, "word 1:h"), NOT);
            MouthFrames y = after("frame 1/1", "say a1");
            t.due("101 FRAMES", text(y, "say b12,c12,d12,e12,f12,g12,h12,b12,c5"), FULL);
            t.dueRow("THE LINE stays", sounds(y, 1), 1);
            t.due("100 FRAMES", text(y, "say b12,c12,d12,e12,f12,g12,h12,b12,c4"), 9);
            t.due("100 FRAMES behind 100", text(y, "say b12,c12,d12,e12,f12,g12,h12,b12,c4"), 9);
        });
        t.holds("22", "how many SOUNDS (say), WORDS (word) there are then", () -> {
            MouthFrames x = new MouthFrames();
            t.due("1 SOUND", text(x, "say a1"), 1);
            t.due("12 SOUNDS", text(x, TWELVE), 12);
            t.due("1 SOUND again", text(x, "say a1"), 1);
            for (int j = 0; j < 8; j++) t.due("WORDS", text(x, "word 1:" + (char) ('a' + j)), j + 1);
            x.forget(7);
            t.due("8 WORDS again", text(x, "word 1:l"), 8);
        });
        t.holds("22", "what frame(), window() answer (frame, window)", () -> {
            MouthFrames x = after("frame 1/1", "say b12,c12,d12,e12,f12,g12,h12,b12,c4");
            t.due("FULL", text(x, "frame 1/2"), FULL);
            t.due("NOT", text(x, "frame 1/1"), NOT);
            t.due("what it was", text(x, "frame 2/1"), 11);
            t.due("a WINDOW that is so", text(x, "window 1"), NOT);
            t.due("another WINDOW", text(x, "window 0"), 1);
            t.due("from 0", text(x, "window 2"), 0);
            t.due("the answer 0 is known", x.count(10), 5);
        });
    }

    private static void doneAndUndone() {
        t.holds("23", "A DRIFT of n turns (1 .. 40; each may be UNDONE): how many SOUNDS then. BAD.", () -> {
            MouthFrames x = new MouthFrames();
            for (int n : new int[] {0, 41, -1, MIN, MAX}) t.due("drift " + n, x.drift(n), BAD);
            t.due("THE DRAW stays", x.seed(1), 1);
            t.due("1 turn", x.drift(1), 0);
            t.due("it may be UNDONE", x.count(10), 1);
            t.due("THE DRAW of one", x.seed(1), 1103527590);
            MouthFrames y = new MouthFrames();
            t.due("40 turns", y.drift(40), y.count(0));
            MouthFrames z = new MouthFrames();
            for (int k = 0; k < 40; k++) z.drift(1);
            t.due("THE DRAW of 40", y.seed(0), z.seed(0));
            MouthFrames w = after(TWELVE);
            Sentences.turn(w, 0);
            t.due("a refused one may be UNDONE", w.count(10), 2);
        });
        t.holds("24", "UNDONE: how many more may be. NONE: none is known.", () -> {
            MouthFrames x = new MouthFrames();
            t.due("none at first", x.undo(), NONE);
            x.window(2);
            x.window(3);
            t.due("one more", x.undo(), 1);
            t.due("none more", x.undo(), 0);
            t.due("none known", x.undo(), NONE);
            t.due("none known again", x.undo(), NONE);
            t.due("nothing changes by that", x.count(8), 1);
        });
        t.holds("25", "THE DRAW becomes v: what it was. BAD: below 0.", () -> {
            MouthFrames x = new MouthFrames();
            for (int v : new int[] {-1, MIN}) t.due("seed " + v, x.seed(v), BAD);
            t.due("seed 0", x.seed(0), 1);
            t.due("seed 0 again", x.seed(0), 0);
            t.due("the greatest", x.seed(MAX), 0);
            t.due("what it was", x.seed(5), MAX);
            t.due("nothing to be UNDONE", x.undo(), NONE);
        });
        t.holds("26", "All but SHEETS, THE TAPE is kept as an IMAGE: 1.", () -> {
            MouthFrames x = new MouthFrames();
            x.sheet(0, 1, 3);
            x.type('w');
            t.due("of nothing told", x.image(), 1);
            x.window(3);
            x.sheet(0, 2, 5);
            x.type('i');
            t.due("restore()", x.restore(), 1);
            t.due("SHEETS stay", x.drop(0), 5);
            t.due("THE TAPE stays", x.type('n'), 3);
            t.due("what may be UNDONE is as then", x.undo(), NONE);
            t.due("WINDOW", x.count(8), 1);
            t.due("an IMAGE more", x.image(), 1);
        });
        t.holds("27", "All is as it was then: 1. NONE: there is none.", () -> {
            MouthFrames x = after("word 3:ab", "say b8,a1", "window 3");
            t.due("none", x.restore(), NONE);
            x.shape(2, 5, 5);
            x.sign(3, 2, 2);
            x.frame(3, 2);
            x.seed(77);
            x.image();
            x.shape(2, 0, 0);
            x.sign(3, 1, 1);
            x.frame(1, 1);
            x.window(0);
            x.out(0);
            x.forget(0);
            x.seed(3);
            for (int time = 1; time <= 2; time++) {
                t.due("restore() " + time, x.restore(), 1);
                t.due("SHAPE", x.shape(2, 5, 5), NOT);
                t.due("SIGN", x.sign(3, 2, 2), NOT);
                t.due("FRAME", x.frame(3, 2), NOT);
                t.due("WINDOW", x.window(3), NOT);
                t.dueRow("THE LINE", sounds(x, 0), 1, 0);
                t.due("THE LIST", x.letter(0, 1), 1);
                t.due("THE DRAW", x.seed(2), 77);
                t.due("what may be UNDONE", x.undo(), 5);
                t.due("the latest of then", x.frame(4, 1), NOT);
                x.drift(40);
            }
            MouthFrames y = new MouthFrames();
            for (int k = 0; k < 7; k++) y.sound(k, 1);
            y.image();
            y.drift(40);
            y.restore();
            for (int left = 5; left >= 0; left--) {
                t.due("undo of then", y.undo(), left);
                t.due("SOUNDS of then", y.count(0), left + 1);
            }
        });
    }

    public static void main(String[] args) {
        list();
        kindsOfTexts();
        faults();
        undone();
        draws();
        wordCalls();
        tape();
        doneAndUndone();
        t.end(args);
    }
}
