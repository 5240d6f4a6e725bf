/** For each promise of the document: ordinary inputs, the edges that it names, and wrong inputs. */
public final class PromiseTest {
    private static final int BAD = -1, NOT = -2, FULL = -3, NONE = -4, NULL = -11, CAST = -12, INDEX = -13, SIZE = -14;
    private static final int MIN = Integer.MIN_VALUE, MAX = Integer.MAX_VALUE;
    private static final Check CHECK = new Check("promises");

    private static void due(int promise, String call, long got, long want) {
        CHECK.due("promise " + promise + ": " + call, got, want);
    }

    public static void main(String[] args) {
        newObject();
        sock();
        type();
        socks();
        faults();
        told();
        fade();
        set();
        monday();
        mondayWithPairs();
        found();
        alike();
        fellows();
        count();
        pairs();
        pairsOfLikeOnes();
        pairUpAndPart();
        judge();
        thrownAndWorth();
        worst();
        odds();
        owns();
        may();
        bind();
        waysAndWhose();
        seldom();
        lacks();
        wishAndBuy();
        marks();
        imageAndRestore();
        sheets();
        lanes();
        CHECK.end();
    }

    private static OneOfEach house(String text) {
        return Make.house(text);
    }

    private static int put(OneOfEach x, String text) {
        return Make.put(x, text);
    }

    private static long word(String text) {
        return Make.word(text);
    }

    private static void newObject() {
        OneOfEach x = new OneOfEach();
        for (int what = 0; what <= 5; what++) {
            due(1, "count " + what, x.count(what), 0);
        }
        due(1, "told", x.told(0, 0), BAD);
        due(1, "pairs", x.pairs(0), 0);
        due(1, "pairUp", x.pairUp(), 0);
        due(1, "ways", x.ways(), 1);
        due(1, "buy", x.buy(), 0);
        due(1, "worst", x.worst(), NONE);
        due(1, "restore", x.restore(), NONE);
        due(1, "drop", x.drop(0), NULL);
        due(1, "socks", x.socks(), -20);
        due(1, "likeness", x.set(0, 5), 5);
        due(1, "handed", x.set(1, 0), 0);
        due(1, "fade", x.fade(5, 0), 0);
        due(1, "owns", x.owns(2, 5, 0, 12), 192);
        due(1, "wish", x.wish(2, 0), 0);
    }

    private static void sock() {
        OneOfEach x = new OneOfEach();
        int[][] wrong = {{-1, 0, 0, 0}, {6, 0, 0, 0}, {0, -1, 0, 0}, {0, 2, 0, 0}, {0, 0, -1, 0}, {0, 0, 0, 100},
            {0, 0, 100, 100}, {0, 0, 6, 5}, {MIN, 0, 0, 0}, {0, MAX, 0, 0}, {0, 0, MIN, 0}, {0, 0, 0, MAX}, {0, 0, -2, -1}};
        for (int[] w : wrong) {
            due(2, "sock " + java.util.Arrays.toString(w), x.sock(w[0], w[1], w[2], w[3]), BAD);
        }
        due(2, "none came", x.count(0), 0);
        for (int i = 0; i < 12; i++) {
            due(2, "sock " + i, x.sock(i % 6, i % 2, i == 0 ? 0 : 99 - i, 99), i);
            due(2, "where", x.told(i, 4), 0);
        }
        due(2, "no room", x.sock(0, 0, 0, 0), FULL);
        due(2, "wrong and no room", x.sock(0, 0, 1, 0), BAD);
        due(2, "socks", x.count(0), 12);
        due(2, "low", x.told(0, 2), 0);
        due(2, "high", x.told(0, 3), 99);
    }

    private static void type() {
        OneOfEach x = new OneOfEach();
        due(3, "no byte", x.type(97, 0), BAD);
        due(3, "nine bytes", x.type(97, 9), BAD);
        due(3, "n", x.type(97, MIN), BAD);
        due(3, "n", x.type(97, MAX), BAD);
        due(3, "byte 31", x.type(31, 1), BAD);
        due(3, "byte 127", x.type(127, 1), BAD);
        due(3, "byte 255", x.type(255, 1), BAD);
        due(3, "byte 0 ahead", x.type(97, 2), BAD);
        due(3, "byte 32", x.type(32, 1), 1);
        due(3, "byte 126", x.type(126, 1), 2);
        due(3, "higher bytes do not count", x.type(0xFF00000000000061L, 1), 3);
        due(3, "the text so far", x.socks(), -21);
        due(3, "highest first", x.type(word("al7-12:z"), 8), 8);
        due(3, "socks", x.socks(), 1);
        due(3, "low", x.told(0, 2), 7);
        due(3, "high", x.told(0, 3), 12);
        for (int i = 1; i <= 9; i++) {
            due(3, "words", x.type(word("        "), 8), 8 * i);
        }
        due(3, "79", x.type(word("       "), 7), 79);
        due(3, "81", x.type(word("  "), 2), FULL);
        due(3, "wrong and full", x.type(1, 2), BAD);
        due(3, "80", x.type(word("a"), 1), 80);
        due(3, "full", x.type(word(" "), 1), FULL);
        due(3, "the last byte stands", x.socks(), -100);
        due(3, "empty again", x.type(32, 1), 1);
    }

    private static void socks() {
        OneOfEach x = new OneOfEach();
        due(4, "text", put(x, "al5,br0-99:xz, f l 07 - 7 : y "), 3);
        int[][] want = {{0, 0, 5, 5, 7}, {1, 1, 0, 99, 5}, {5, 0, 7, 7, 2}};
        for (int i = 0; i < 3; i++) {
            for (int what = 0; what < 4; what++) {
                due(4, "sock " + i + " told " + what, x.told(i, what), want[i][what]);
            }
            due(4, "may", x.may(i, 7), want[i][4]);
        }
        due(4, "a fault in the last: none comes", put(x, "al1,al2,al100"), -30);
        due(4, "none came", x.count(0), 3);
        due(4, "eight", put(x, "al1,al2,al3,al4,al5,al6,al7,al8"), 8);
        due(4, "one has room, two have not", put(x, "al1,al2"), FULL);
        due(4, "the tape is empty then", x.type(32, 1), 1);
        due(4, "none came", x.count(0), 11);
        due(4, "a fault ahead of no room", put(x, "al1,al2;"), -28);
        due(4, "one", put(x, "dr3"), 1);
        due(4, "no room", put(x, "dr3"), FULL);
    }

    private static void faults() {
        String[] texts = {"", " ", "   ", "g", "A", "al", "al ", "al  ", "a", "ax1", "al,", "al-", "al1a", "al1 2", "al100",
            "al00000000000000000001", "al99999999999999999999", "al4294967297", "al5-", "al5-4", "al5-100", "al5 - 4 ", "al5--6",
            "al5-6-7", "al5:", "al5: ", "al5:w", "al5:xx", "al5:yx", "al5:xyzx", "al5:x y z", "al5:x:y", "al5-6:", "al5:x-6",
            "al5,", "al5, ", ",al5", "al5,,al5", "al5;", "al5:x,", "al5:xyz,br6", "l5", "al5 , br 6", "al0-0", "al99-99", "al9 9",
            "al1,al1,al1,al1,al1,al1,al1,al1,", "al1,al1,al1,al1,al1,al1,al1,al1 ", "al5:xzy", "al5:zx", "al5:X"};
        int[] want = {-20, -21, -23, -20, -20, -22, -23, -24, -21, -21, -22, -22, -23, -24, -22,
            1, -22, -22, -24, -24, -24, -26, -24,
            -25, -24, -25, -24, -25, -25, -27, 1, -25, -26, -25,
            -24, -25, -20, -24, -23, -26, 2, -20, 2, 1, 1, -24,
            -51, 8, -26, -25, -24};
        for (int i = 0; i < texts.length; i++) {
            OneOfEach x = new OneOfEach();
            due(4, "'" + texts[i] + "'", put(x, texts[i]), want[i]);
            due(4, "came by '" + texts[i] + "'", x.count(0), Math.max(0, want[i]));
        }
    }

    private static void told() {
        OneOfEach x = house("cr10-20,al5,ar6");
        int[] want = {2, 1, 10, 20, 0, NONE, 0, NONE};
        for (int what = 0; what < 8; what++) {
            due(5, "told " + what, x.told(0, what), want[what]);
        }
        for (int what : new int[] {-1, 8, MIN, MAX}) {
            due(5, "what", x.told(0, what), BAD);
        }
        for (int sock : new int[] {-1, 3, 12, MIN, MAX}) {
            due(5, "sock", x.told(sock, 0), BAD);
        }
        x.pairUp();
        due(5, "paired", x.told(1, 4), 2);
        due(5, "other", x.told(1, 5), 2);
        due(5, "other", x.told(2, 5), 1);
        x.monday(0, 0);
        x.monday(1, 1);
        x.monday(7, 2);
        due(5, "went", x.told(0, 6), 2);
        due(5, "went", x.told(1, 6), 1);
        due(5, "lost", x.told(0, 4), 1);
        due(5, "since", x.told(0, 7), 2);
        due(5, "came back", x.told(1, 7), NONE);
        due(5, "no more paired", x.told(1, 5), NONE);
        due(5, "no more paired", x.told(2, 5), NONE);
        x.found(0);
        due(5, "found", x.told(0, 7), NONE);
        due(5, "went all the same", x.told(0, 6), 2);
    }

    private static void fade() {
        OneOfEach x = new OneOfEach();
        due(6, "fade", x.fade(0, 9), 0);
        due(6, "fade", x.fade(0, 0), 9);
        due(6, "fade of another one", x.fade(5, 1), 0);
        due(6, "v", x.fade(5, 10), BAD);
        due(6, "v", x.fade(5, -1), BAD);
        due(6, "kind", x.fade(6, 1), BAD);
        due(6, "kind", x.fade(-1, 1), BAD);
        due(6, "kind", x.fade(MIN, 1), BAD);
        due(6, "v", x.fade(0, MAX), BAD);
        due(6, "nothing changed", x.fade(5, 1), 1);
    }

    private static void set() {
        OneOfEach x = new OneOfEach();
        due(7, "likeness", x.set(0, 20), 5);
        due(7, "likeness", x.set(0, 0), 20);
        due(7, "too much", x.set(0, 21), BAD);
        due(7, "too little", x.set(0, -1), BAD);
        due(7, "likeness", x.set(0, 5), 0);
        due(7, "handed", x.set(1, 1), 0);
        due(7, "handed", x.set(1, 2), BAD);
        due(7, "handed", x.set(1, -1), BAD);
        due(7, "handed", x.set(1, 0), 1);
        due(7, "what", x.set(2, 0), BAD);
        due(7, "what", x.set(-1, 0), BAD);
        due(7, "what", x.set(MAX, MIN), BAD);
    }

    private static void monday() {
        OneOfEach x = house("al5,br90-98,cl0-50");
        x.fade(0, 3);
        x.fade(1, 9);
        due(8, "a sock that is not there", x.monday(8, 0), BAD);
        due(8, "one that did not go", x.monday(1, 2), BAD);
        due(8, "back that is not there", x.monday(7, 8), BAD);
        due(8, "all bits", x.monday(-1, 0), BAD);
        due(8, "the highest bit", x.monday(MIN, 0), BAD);
        due(8, "none counts", x.count(4), 0);
        due(8, "two lost", x.monday(7, 1), 2);
        due(8, "fades", x.told(0, 2), 8);
        due(8, "fades", x.told(0, 3), 8);
        due(8, "at most 99", x.told(1, 2), 99);
        due(8, "at most 99", x.told(1, 3), 99);
        due(8, "fade 0", x.told(2, 3), 50);
        due(8, "where", x.told(1, 4), 1);
        due(8, "lost one went", x.monday(3, 3), NOT);
        due(8, "bad ahead of not", x.monday(3, 4), BAD);
        due(8, "refused: no fade", x.told(0, 2), 8);
        for (int i = 1; i < 12; i++) {
            due(8, "monday " + i, x.monday(i % 2, i % 2), 0);
        }
        due(8, "twelve", x.count(4), 12);
        due(8, "full", x.monday(0, 0), FULL);
        due(8, "not ahead of full", x.monday(2, 0), NOT);
        due(8, "bad ahead of full", x.monday(0, 1), BAD);
        due(8, "went", x.told(0, 6), 7);
        due(8, "stays in the box fades not", x.told(2, 6), 1);
        due(8, "fades by washes", x.told(0, 2), 8 + 6 * 3);
    }

    private static void mondayWithPairs() {
        OneOfEach x = house("al5,ar6,al30,ar31,bl7");
        due(8, "pairs", x.pairUp(), 2);
        due(8, "one of a pair alone", x.monday(1, 1), NOT);
        due(8, "the other one alone", x.monday(8 + 16, 0), NOT);
        due(8, "both, both back", x.monday(3, 3), 0);
        due(8, "still paired", x.told(0, 5), 1);
        due(8, "both, one back", x.monday(3, 1), 1);
        due(8, "the other one is in the box", x.told(0, 4), 0);
        due(8, "lost", x.told(1, 4), 1);
        due(8, "lost since", x.told(1, 7), 1);
        due(8, "both, none back", x.monday(12, 0), 2);
        due(8, "lost", x.told(2, 4), 1);
        due(8, "lost", x.told(3, 4), 1);
        due(8, "since", x.told(2, 7), 2);
        due(8, "since", x.told(3, 7), 2);
        due(8, "none paired", x.count(3), 0);
    }

    private static void found() {
        OneOfEach x = house("al5,ar6");
        due(9, "not lost", x.found(0), NOT);
        x.monday(0, 0);
        x.monday(3, 0);
        due(9, "found", x.found(1), 1);
        due(9, "in the box", x.told(1, 4), 0);
        due(9, "again", x.found(1), NOT);
        due(9, "no sock", x.found(2), BAD);
        due(9, "no sock", x.found(-1), BAD);
        due(9, "no sock", x.found(MAX), BAD);
        due(9, "the other one is lost", x.told(0, 4), 1);
        x.monday(2, 0);
        due(9, "lost once more", x.found(1), 2);
        x.pairUp();
        due(9, "in the box", x.found(1), NOT);
    }

    private static void alike() {
        OneOfEach x = house("al10-12,br12-15,al16-16,al18-40,al17,ar0-99");
        due(10, "sure at the edge", x.alike(0, 1), 2);
        due(10, "may be", x.alike(0, 2), 1);
        due(10, "six apart", x.alike(0, 3), 0);
        due(10, "five apart", x.alike(0, 4), 1);
        due(10, "within", x.alike(5, 2), 1);
        due(10, "both ways", x.alike(2, 0), 1);
        x.set(0, 4);
        due(10, "one less", x.alike(0, 1), 1);
        due(10, "one less", x.alike(0, 4), 0);
        x.set(0, 0);
        due(10, "one tone in both", x.alike(0, 1), 1);
        due(10, "none", x.alike(2, 4), 0);
        due(10, "one sock", x.alike(1, 1), BAD);
        due(10, "no sock", x.alike(0, 6), BAD);
        due(10, "no sock", x.alike(-1, 0), BAD);
        due(10, "no sock", x.alike(MIN, MAX), BAD);
        OneOfEach y = house("al7,al7");
        y.set(0, 0);
        due(10, "like tones", y.alike(0, 1), 2);
    }

    private static void fellows() {
        OneOfEach x = house("al5,ar6,al7,br8,ar50");
        due(11, "nothing", x.fellows(0, 1), 0);
        due(11, "kind", x.fellows(0, 3), 1);
        due(11, "tone", x.fellows(0, 4), 4);
        due(11, "hand does not count", x.fellows(0, 2), 0);
        x.set(1, 1);
        due(11, "both left", x.fellows(0, 2), 2);
        due(11, "both right", x.fellows(1, 4), 6);
        due(11, "left and right", x.fellows(0, 1), 0);
        x.set(1, 0);
        x.monday(1, 1);
        due(11, "one went, the other one did not", x.fellows(0, 1), 8);
        due(11, "the other way", x.fellows(1, 0), 8);
        due(11, "both stayed", x.fellows(1, 2), 0);
        due(11, "all", x.fellows(0, 3), 9);
        put(x, "al6");
        due(11, "not there then", x.fellows(0, 5), 0);
        x.monday(38, 36);
        due(11, "both went", x.fellows(1, 2), 0);
        due(11, "lost 1", x.told(1, 4), 1);
        x.monday(36, 36);
        due(11, "lost when it came", x.fellows(1, 2), 0);
        due(11, "known ever since", x.fellows(0, 1), 8);
        due(11, "one sock", x.fellows(1, 1), BAD);
        due(11, "no sock", x.fellows(6, 1), BAD);
        due(11, "no sock", x.fellows(0, -1), BAD);
        x.set(1, 1);
        due(11, "every bar but the kind", x.fellows(1, 4), 14);
    }

    private static void count() {
        OneOfEach x = house("al5,ar6,bl7,bl8,cl9,cr10,dl1");
        x.monday(127, 15);
        int[] want = {7, 4, 3, 0, 1, 2};
        for (int what = 0; what < 6; what++) {
            due(12, "count " + what, x.count(what), want[what]);
        }
        x.pairUp();
        due(12, "paired socks", x.count(3), 4);
        due(12, "box", x.count(1), 0);
        due(12, "what", x.count(6), BAD);
        due(12, "what", x.count(-1), BAD);
        due(12, "what", x.count(MIN), BAD);
    }

    private static void pairs() {
        OneOfEach x = house("al10,al14,al15,al19");
        due(13, "most pairs", x.pairs(0), 2);
        due(13, "nearest", x.pairs(1), 16);
        due(14, "fellow", x.fellow(0), 1);
        due(14, "fellow", x.fellow(3), 2);
        OneOfEach y = house("al0,al5,al6,al11");
        due(13, "most pairs go ahead of near ones", y.pairs(0), 2);
        due(13, "sum", y.pairs(1), 20);
        due(13, "what", y.pairs(2), BAD);
        due(13, "what", y.pairs(-1), BAD);
        due(14, "no sock", y.fellow(4), BAD);
        due(14, "no sock", y.fellow(-1), BAD);
        due(14, "no sock", y.fellow(MIN), BAD);
        OneOfEach z = house("al0-10,ar5,al4,br5");
        due(13, "by both ends", z.pairs(1), 0);
        due(14, "nearest", z.fellow(0), 1);
        due(14, "none", z.fellow(2), NONE);
        due(14, "none", z.fellow(3), NONE);
        z.monday(2, 0);
        due(14, "what is lost is out, what stayed is known", z.fellow(1), NONE);
        due(14, "the next one", z.fellow(0), 2);
        due(13, "sum", z.pairs(1), 2);
        z.set(1, 1);
        due(13, "handed", z.pairs(0), 0);
        OneOfEach w = house("al0-99,al0-99,al0-99,al0-99,al0-99,al0-99");
        put(w, "al0,al0,al0,al99,al99,al99");
        w.set(0, 0);
        due(13, "six pairs", w.pairs(0), 6);
        due(14, "of like sums the first row", w.fellow(0), 1);
    }

    private static void pairsOfLikeOnes() {
        OneOfEach x = house("al5,al5,al5,al5,al5");
        int[] want = {1, 0, 3, 2, NONE};
        for (int sock = 0; sock < 5; sock++) {
            due(14, "first row", x.fellow(sock), want[sock]);
        }
        OneOfEach y = house("al5,al5,al5");
        y.monday(1, 1);
        y.monday(1, 1);
        due(14, "none last, but most pairs", y.fellow(0), NONE);
        due(14, "fellow", y.fellow(1), 2);
        OneOfEach z = house("al10,al8,al12");
        due(14, "of two as near the first", z.fellow(0), 1);
        OneOfEach w = house("al10,al13,al8,al11");
        due(14, "a near fellow of another one", w.fellow(0), 2);
        due(13, "sum", w.pairs(1), 8);
    }

    private static void pairUpAndPart() {
        OneOfEach x = house("al5,ar6,al30,ar31,bl7");
        due(15, "pairUp", x.pairUp(), 2);
        due(15, "paired", x.told(0, 5), 1);
        due(15, "paired", x.told(3, 5), 2);
        due(15, "single", x.told(4, 4), 0);
        due(15, "again: none is left", x.pairUp(), 0);
        due(15, "stay", x.count(3), 4);
        due(13, "none in the box", x.pairs(0), 0);
        due(14, "paired ones have none by the box", x.fellow(0), NONE);
        due(16, "part", x.part(1), 0);
        due(16, "both in the box", x.told(0, 4), 0);
        due(16, "both in the box", x.told(1, 4), 0);
        due(16, "no other one", x.told(0, 5), NONE);
        due(16, "not paired", x.part(0), NOT);
        due(16, "not paired", x.part(4), NOT);
        due(16, "no sock", x.part(5), BAD);
        due(16, "no sock", x.part(-1), BAD);
        due(15, "pairUp", x.pairUp(), 1);
        x.monday(3, 0);
        due(16, "lost", x.part(0), NOT);
    }

    private static OneOfEach told(String text, int lane, int from, int... fellows) {
        OneOfEach x = house(text);
        x.sheet(3, lane, from + fellows.length);
        for (int i = 0; i < fellows.length; i++) {
            x.item(3, lane, from + i, fellows[i]);
        }
        return x;
    }

    private static void judge() {
        String text = "al5,ar6,al50,br5";
        for (int lane = 0; lane < 3; lane++) {
            due(17, "all may be", told(text, lane, 2, 1, 0, -1, -1).judge(3, lane, 2), NONE);
            due(17, "none told", told(text, lane, 0, -1, -1, -1, -1).judge(3, lane, 0), NONE);
            due(17, "one way", told(text, lane, 0, -1, 0, -1, -1).judge(3, lane, 0), 1);
            due(17, "of unlike tones", told(text, lane, 1, -1, 2, 1, -1).judge(3, lane, 1), 1);
            due(17, "of unlike kinds", told(text, lane, 1, -1, 3, -1, 1).judge(3, lane, 1), 1);
            due(17, "itself", told(text, lane, 0, 1, 0, 2, -1).judge(3, lane, 0), 2);
            due(17, "no sock", told(text, lane, 0, 1, 0, -1, 4).judge(3, lane, 0), 3);
            due(17, "-2", told(text, lane, 0, 1, 0, -1, -2).judge(3, lane, 0), 3);
            due(17, "far off", told(text, lane, 0, 1, 0, 127, -1).judge(3, lane, 0), 2);
        }
        OneOfEach x = told(text, 2, 0, 1, 0, -1, -1);
        due(17, "no sheet", x.judge(4, 2, 0), BAD);
        due(17, "no sheet", x.judge(-1, 2, 0), BAD);
        due(17, "no lane", x.judge(3, 3, 0), BAD);
        due(17, "no lane ahead of null", x.judge(0, -1, 0), BAD);
        due(17, "nothing", x.judge(0, 0, -1), NULL);
        due(17, "another lane", x.judge(3, 1, -1), CAST);
        due(17, "one behind", x.judge(3, 2, 1), INDEX);
        due(17, "ahead", x.judge(3, 2, -1), INDEX);
        due(17, "far", x.judge(3, 2, MAX), INDEX);
        due(17, "far", x.judge(3, 2, MIN), INDEX);
        x.monday(2, 0);
        due(17, "fellow is lost", x.judge(3, 2, 0), 0);
        x.item(3, 2, 0, -1);
        due(17, "of a lost one, if one is told", x.judge(3, 2, 0), 1);
        x.item(3, 2, 1, -1);
        due(17, "none told of a lost one", x.judge(3, 2, 0), NONE);
        OneOfEach y = told("al5,ar6", 2, 0, 1, 0);
        y.pairUp();
        due(17, "paired ones are not in the box", y.judge(3, 2, 0), 0);
        OneOfEach z = new OneOfEach();
        z.sheet(0, 0, 0);
        due(17, "no socks, no items", z.judge(0, 0, 0), NONE);
    }

    private static OneOfEach chances(int lane, int... p) {
        OneOfEach x = new OneOfEach();
        x.sheet(1, lane, p.length);
        for (int i = 0; i < p.length; i++) {
            x.item(1, lane, i, p[i]);
        }
        return x;
    }

    private static void weeks(OneOfEach x, int lane, int[] call, int thrown, long above, long below) {
        String told = java.util.Arrays.toString(call);
        due(18, "thrown " + told, x.thrown(1, lane, call[0], call[1], call[2], call[3]), thrown);
        due(19, "above " + told, x.worth(1, lane, call[0], call[1], call[2], call[3], 0), above);
        due(19, "below " + told, x.worth(1, lane, call[0], call[1], call[2], call[3], 1), below);
    }

    private static void thrownAndWorth() {
        for (int lane = 0; lane < 3; lane++) {
            OneOfEach x = chances(lane, 1, 1, 1, 1, 1, 1, 1, 1, 0, 12, 6, 13, -1);
            weeks(x, lane, new int[] {0, 1, 120, 9}, NONE, 1, 1);
            weeks(x, lane, new int[] {0, 1, 120, 10}, 0, 0, 1);
            weeks(x, lane, new int[] {0, 2, 120, 9}, NONE, 23, 12);
            weeks(x, lane, new int[] {0, 8, 999, 0}, NONE, 37 * (429981696L - 214358881L), 429981696L / 27);
            weeks(x, lane, new int[] {7, 4, 12, 1}, NONE, 55, 6);
            weeks(x, lane, new int[] {8, 1, 999, 0}, 0, 0, 1);
            weeks(x, lane, new int[] {8, 2, 999, 99}, NONE, 801, 1);
            weeks(x, lane, new int[] {9, 2, 10, 6}, 1, 4, 1);
            weeks(x, lane, new int[] {9, 1, 0, 0}, 0, 0, 1);
            weeks(x, lane, new int[] {11, 1, 1, 1}, NOT, NOT, NOT);
            weeks(x, lane, new int[] {12, 1, 1, 1}, NOT, NOT, NOT);
            weeks(x, lane, new int[] {10, 2, 1, 1}, NOT, NOT, NOT);
            weeks(x, lane, new int[] {12, 2, 1, 1}, INDEX, INDEX, INDEX);
            weeks(x, lane, new int[] {-1, 2, 1, 1}, INDEX, INDEX, INDEX);
            weeks(x, lane, new int[] {MAX, 8, 1, 1}, INDEX, INDEX, INDEX);
            weeks(x, lane, new int[] {MIN, 8, 1, 1}, INDEX, INDEX, INDEX);
            weeks(x, (lane + 1) % 3, new int[] {-1, 1, 1, 1}, CAST, CAST, CAST);
            int[][] wrong = {{0, 0, 1, 1}, {0, 9, 1, 1}, {0, 1, -1, 1}, {0, 1, 1000, 1}, {0, 1, 1, -1}, {0, 1, 1, 100}};
            for (int[] w : wrong) {
                weeks(x, lane, w, BAD, BAD, BAD);
                weeks(x, (lane + 1) % 3, w, BAD, BAD, BAD);
            }
            due(19, "what", x.worth(1, lane, 0, 1, 1, 1, 2), BAD);
            due(19, "what", x.worth(1, lane, 0, 1, 1, 1, -1), BAD);
        }
        OneOfEach x = chances(2, 1);
        due(18, "nothing", x.thrown(0, 2, -1, 1, 1, 1), NULL);
        due(19, "nothing", x.worth(0, 2, -1, 1, 1, 1, 0), NULL);
        due(18, "no sheet", x.thrown(4, 2, 0, 1, 1, 1), BAD);
        due(18, "no lane", x.thrown(1, 3, 0, 1, 1, 1), BAD);
        due(19, "no sheet", x.worth(-1, 2, 0, 1, 1, 1, 0), BAD);
        due(19, "no lane", x.worth(1, -1, 0, 1, 1, 1, 0), BAD);
    }

    private static void worst() {
        OneOfEach x = house("al1,bl1,cl1");
        due(20, "not by all", x.worst(), NONE);
        put(x, "cl99,cl50");
        due(20, "kinds and one more", x.worst(), 4);
        x.set(1, 1);
        due(20, "all left", x.worst(), NONE);
        put(x, "ar1,cr1");
        due(20, "handed", x.worst(), 6);
        x.set(1, 0);
        x.monday(2, 0);
        due(20, "lost ones are not drawn", x.worst(), 3);
        OneOfEach y = house("al1");
        due(20, "a single one", y.worst(), NONE);
        put(y, "al9");
        due(20, "two", y.worst(), 2);
        y.set(0, 20);
        y.pairUp();
        due(20, "paired ones are not drawn", y.worst(), NONE);
    }

    private static void odds(OneOfEach x, int d, int above, int below) {
        due(21, "above " + d, x.odds(d, 0), above);
        due(21, "below " + d, x.odds(d, 1), below);
    }

    private static void odds() {
        OneOfEach x = house("al1,al2,ar3,bl4,br5");
        odds(x, 0, 0, 1);
        odds(x, 1, 0, 1);
        odds(x, 2, 2, 5);
        odds(x, 3, 1, 1);
        odds(x, 5, 1, 1);
        odds(x, 6, NOT, NOT);
        odds(x, 12, NOT, NOT);
        odds(x, 13, BAD, BAD);
        odds(x, -1, BAD, BAD);
        odds(x, MIN, BAD, BAD);
        due(21, "what", x.odds(0, 2), BAD);
        due(21, "what", x.odds(0, -1), BAD);
        due(21, "bad ahead of not", x.odds(9, 2), BAD);
        x.set(1, 1);
        odds(x, 2, 3, 10);
        odds(x, 3, 4, 5);
        odds(x, 4, 1, 1);
        x.monday(4, 0);
        odds(x, 2, 1, 6);
        odds(x, 4, 1, 1);
        odds(x, 5, NOT, NOT);
    }

    private static void owns() {
        OneOfEach x = house("al1,al2,al3");
        due(22, "owns", x.owns(0, 0, 1, 2), 192);
        due(22, "owns", x.owns(0, 0, 12, 12), 1 + 16 * 2);
        due(22, "owns", x.owns(0, 0, 0, 0), 12 + 16 * 12);
        int[][] wrong = {{-1, 0, 0, 0}, {3, 0, 0, 0}, {0, -1, 0, 0}, {0, 6, 0, 0}, {0, 0, -1, 0}, {0, 0, 0, 13}, {0, 0, 13, 13},
            {0, 0, 2, 1}, {MIN, 0, 0, 0}, {0, MAX, 0, 0}, {0, 0, MIN, MAX}};
        for (int[] w : wrong) {
            due(22, "owns " + java.util.Arrays.toString(w), x.owns(w[0], w[1], w[2], w[3]), BAD);
        }
        due(22, "of another lodger", x.owns(1, 0, 0, 12), 192);
        due(22, "of another kind", x.owns(0, 1, 0, 12), 192);
        due(22, "nothing changed", x.owns(0, 0, 0, 0), 0);
        due(25, "none of the first", x.ways(), 8);
    }

    private static void may() {
        OneOfEach x = house("al1,al2:yz");
        due(23, "may", x.may(0, 1), 7);
        due(23, "may", x.may(0, 6), 1);
        due(23, "by the text", x.may(1, 7), 6);
        due(23, "nobody", x.may(0, 0), BAD);
        due(23, "too many", x.may(0, 8), BAD);
        due(23, "set", x.may(0, MIN), BAD);
        due(23, "no sock", x.may(2, 1), BAD);
        due(23, "no sock", x.may(-1, 1), BAD);
        due(23, "nothing changed", x.may(0, 7), 6);
    }

    private static void bind() {
        OneOfEach x = house("al1,al2,al3,al4,bl5");
        due(24, "bind", x.bind(0, 1), 1);
        due(24, "again", x.bind(1, 0), NONE);
        due(24, "others", x.bind(2, 3), 1);
        due(24, "both", x.bind(3, 0), 1);
        due(24, "by others", x.bind(1, 2), NONE);
        due(24, "unlike kinds", x.bind(0, 4), NOT);
        due(24, "one sock", x.bind(0, 0), BAD);
        due(24, "no sock", x.bind(0, 5), BAD);
        due(24, "no sock", x.bind(-1, 0), BAD);
        due(24, "no sock", x.bind(MAX, MIN), BAD);
        due(25, "bound ones alike", x.ways(), 9);
    }

    private static void waysAndWhose() {
        OneOfEach x = house("al1,al2,al3,bl4");
        due(25, "all", x.ways(), 81);
        x.owns(0, 0, 2, 3);
        due(25, "two or three of three", x.ways(), 7 * 3);
        x.may(0, 2);
        due(25, "one is another's", x.ways(), 3);
        due(26, "whose", x.whose(0), 2);
        due(26, "whose", x.whose(1), 1);
        due(26, "whose", x.whose(3), 7);
        x.bind(0, 1);
        due(25, "no way", x.ways(), 0);
        due(26, "no way", x.whose(3), NONE);
        due(26, "no sock", x.whose(4), BAD);
        due(26, "no sock", x.whose(-1), BAD);
        OneOfEach y = new OneOfEach();
        y.owns(2, 5, 1, 12);
        due(25, "of a kind that is not there", y.ways(), 0);
        OneOfEach z = house("al1,al1,al1,al1,al1,al1,al1,al1");
        put(z, "al1,al1,al1,al1");
        due(25, "all of twelve", z.ways(), 531441);
        for (int lodger = 0; lodger < 3; lodger++) {
            z.owns(lodger, 0, 4, 4);
        }
        due(25, "four each", z.ways(), 34650);
        z.monday(4095, 0);
        due(25, "lost ones count too", z.ways(), 34650);
        OneOfEach w = house("al1:x,al2:xy,al3:yz");
        w.owns(0, 0, 1, 1);
        due(26, "by what is left", w.whose(1), 2);
        due(26, "either", w.whose(2), 6);
    }

    private static void seldom() {
        OneOfEach x = house("al1,al2,al3,ar4,ar5,ar6");
        due(27, "none is lost", x.seldom(0), NOT);
        due(27, "what", x.seldom(2), BAD);
        due(27, "what", x.seldom(-1), BAD);
        x.monday(7, 0);
        due(27, "above", x.seldom(0), 1);
        due(27, "below", x.seldom(1), 20);
        x.found(2);
        due(27, "above", x.seldom(0), 1);
        due(27, "below", x.seldom(1), 5);
        x.monday(8, 0);
        due(27, "or more", x.seldom(0), 1);
        due(27, "or more", x.seldom(1), 2);
        x.found(0);
        x.found(1);
        due(27, "no left one: sure", x.seldom(0), 1);
        due(27, "no left one: sure", x.seldom(1), 1);
    }

    private static void lacks() {
        OneOfEach x = house("al1,al2,ar4,br5,br6,bl7");
        due(28, "not lost", x.lacks(0, 1), 1);
        due(28, "not lost", x.lacks(1, 1), -1);
        x.monday(27, 0);
        due(28, "lost", x.lacks(0, 0), 2);
        due(28, "lost", x.lacks(1, 0), -2);
        due(28, "not lost", x.lacks(0, 1), -1);
        due(28, "not lost", x.lacks(1, 1), 1);
        due(28, "none", x.lacks(5, 0), 0);
        due(28, "kind", x.lacks(6, 0), -1001);
        due(28, "kind", x.lacks(-1, 0), -1001);
        due(28, "what", x.lacks(0, 2), -1001);
        due(28, "what", x.lacks(0, MIN), -1001);
    }

    private static void wishAndBuy() {
        OneOfEach x = new OneOfEach();
        due(29, "wish", x.wish(0, 32), 0);
        due(30, "one wish", x.buy(), 32);
        due(29, "wish", x.wish(0, 6), 32);
        due(30, "the least set", x.buy(), 2);
        due(29, "wish", x.wish(1, 20), 0);
        due(30, "one does for both", x.buy(), 4);
        due(29, "wish", x.wish(2, 48), 0);
        due(30, "two, the least", x.buy(), 18);
        due(29, "lodger", x.wish(3, 1), BAD);
        due(29, "lodger", x.wish(-1, 1), BAD);
        due(29, "kinds", x.wish(0, 64), BAD);
        due(29, "kinds", x.wish(0, -1), BAD);
        due(29, "no more", x.wish(0, 0), 6);
        due(30, "one does again", x.buy(), 16);
        x.wish(0, 1);
        x.wish(1, 2);
        x.wish(2, 4);
        due(30, "one for each", x.buy(), 7);
        due(29, "all kinds", x.wish(2, 63), 4);
        due(30, "met by the others", x.buy(), 3);
    }

    private static void marks() {
        int[][] want = {
            {1, 0, 1, 0}, {2, 0, 1, 0, 1}, {3, 0, 2, 0, 1, 2}, {4, 0, 2, 0, 1, 2, 3}, {5, 0, 3, 0, 1, 2, 3, 4},
            {1, 1, 1, 0}, {2, 1, 2, 0, 3}, {3, 1, 4, 0, 3, 12}, {4, 1, 4, 0, 3, 12, 15}, {5, 1, 5, 0, 3, 12, 15, 21},
            {1, 2, 1, 0}, {2, 2, 3, 0, 7}, {3, 2, 6, 0, 7, 56}, {4, 2, 6, 0, 7, 56, 63}, {1, 3, 1, 0}, {2, 3, 4, 0, 15}};
        OneOfEach x = new OneOfEach();
        for (int[] w : want) {
            for (int i = -1; i < w[0]; i++) {
                due(31, "marks " + w[0] + " " + w[1] + " " + i, x.marks(w[0], w[1], i), w[3 + i]);
            }
        }
        int[][] none = {{5, 2}, {3, 3}, {4, 3}, {5, 3}};
        for (int[] w : none) {
            due(31, "n", x.marks(w[0], w[1], -1), NONE);
            due(31, "the last", x.marks(w[0], w[1], w[0] - 1), NONE);
            due(31, "no owner", x.marks(w[0], w[1], w[0]), BAD);
        }
        int[][] wrong = {{0, 0, -1}, {6, 0, 0}, {1, -1, 0}, {1, 4, 0}, {1, 0, 1}, {5, 0, 5}, {5, 0, -2}, {MIN, 0, -1}, {1, MAX, 0}, {1, 0, MIN}, {5, 0, MAX}};
        for (int[] w : wrong) {
            due(31, "marks " + java.util.Arrays.toString(w), x.marks(w[0], w[1], w[2]), BAD);
        }
    }

    private static void imageAndRestore() {
        OneOfEach x = house("al5-7:xy,al6,bl40,bl44");
        x.fade(0, 2);
        x.set(0, 9);
        x.set(1, 0);
        x.monday(3, 1);
        x.owns(1, 1, 1, 3);
        x.bind(2, 3);
        x.wish(0, 8);
        x.pairUp();
        due(33, "none yet", x.restore(), NONE);
        due(32, "image", x.image(), 1);
        x.sock(2, 0, 0, 0);
        x.fade(0, 7);
        x.set(0, 1);
        x.set(1, 1);
        x.found(1);
        x.part(2);
        x.monday(1, 0);
        x.owns(1, 1, 0, 0);
        x.may(0, 4);
        x.bind(0, 1);
        x.wish(0, 1);
        x.sheet(0, 1, 3);
        x.item(0, 1, 0, 12);
        x.type(32, 1);
        due(33, "restore", x.restore(), 1);
        int[][] want = {{0, 0, 7, 9, 0, NONE, 1, NONE}, {0, 0, 8, 8, 1, NONE, 1, 0}, {1, 0, 40, 40, 2, 3, 0, NONE}};
        for (int sock = 0; sock < 3; sock++) {
            for (int what = 0; what < 8; what++) {
                due(33, "told " + sock + " " + what, x.told(sock, what), want[sock][what]);
            }
        }
        due(33, "socks", x.count(0), 4);
        due(33, "mondays", x.count(4), 1);
        due(33, "fellows", x.fellows(0, 2), 13);
        due(33, "not bound", x.bind(0, 1), 1);
        due(33, "bound", x.bind(2, 3), NONE);
        due(33, "fade", x.fade(0, 7), 2);
        due(33, "likeness", x.set(0, 1), 9);
        due(33, "handed", x.set(1, 1), 0);
        due(33, "owns", x.owns(1, 1, 0, 0), 1 + 16 * 3);
        due(33, "may", x.may(0, 4), 3);
        due(33, "wish", x.wish(0, 1), 8);
        due(32, "the tape is none of it", x.type(32, 1), 2);
        due(32, "sheets are none of it", x.drop(0), 3);
        due(33, "again", x.restore(), 1);
        due(33, "as it was then", x.fade(0, 0), 2);
        due(33, "not bound again", x.bind(0, 1), 1);
        due(32, "a later image", x.image(), 1);
        x.fade(0, 9);
        x.restore();
        due(33, "the later one", x.fade(0, 0), 0);
        due(33, "bound then", x.bind(0, 1), NONE);
        OneOfEach y = new OneOfEach();
        y.image();
        put(y, "al1");
        y.restore();
        due(33, "no socks", y.count(0), 0);
        due(33, "the next is the first", y.sock(3, 1, 4, 4), 0);
    }

    private static void sheets() {
        OneOfEach x = new OneOfEach();
        due(34, "a sheet", x.sheet(0, 0, 16), 16);
        due(34, "none in it", x.sheet(3, 2, 0), 0);
        due(34, "too many", x.sheet(0, 0, 17), BAD);
        due(34, "too many", x.sheet(0, 0, MAX), BAD);
        due(34, "below 0", x.sheet(0, 0, -1), SIZE);
        due(34, "below 0", x.sheet(0, 0, MIN), SIZE);
        due(34, "no sheet ahead of size", x.sheet(4, 0, -1), BAD);
        due(34, "no sheet", x.sheet(-1, 0, 1), BAD);
        due(34, "no lane", x.sheet(0, 3, 1), BAD);
        due(34, "no lane ahead of size", x.sheet(0, -1, -1), BAD);
        due(35, "as it was", x.drop(0), 16);
        due(35, "nothing", x.drop(0), NULL);
        due(35, "no items", x.drop(3), 0);
        due(35, "nothing", x.drop(3), NULL);
        due(35, "nothing at first", x.drop(1), NULL);
        due(35, "no sheet", x.drop(4), BAD);
        due(35, "no sheet", x.drop(-1), BAD);
        x.sheet(1, 1, 2);
        due(36, "item", x.item(1, 1, 1, 9), 1);
        due(36, "behind", x.item(1, 1, 2, 9), INDEX);
        due(36, "ahead", x.item(1, 1, -1, 9), INDEX);
        due(36, "far", x.item(1, 1, MAX, 9), INDEX);
        due(36, "far", x.item(1, 1, MIN, 9), INDEX);
        due(36, "another lane ahead of the index", x.item(1, 0, 2, 9), CAST);
        due(36, "another lane", x.item(1, 2, 0, 9), CAST);
        due(36, "nothing", x.item(0, 2, -1, 9), NULL);
        due(36, "no sheet", x.item(4, 1, 0, 9), BAD);
        due(36, "no lane", x.item(1, 3, 0, 9), BAD);
        due(36, "no lane ahead of null", x.item(0, 3, 0, 9), BAD);
        x.sheet(1, 1, 2);
        due(34, "a new row has zeros", x.thrown(1, 1, 1, 1, 999, 0), 0);
        x.item(1, 1, 1, 12);
        due(36, "item stays", x.worth(1, 1, 1, 1, 999, 0, 0), 999);
        x.sheet(1, 1, 2);
        due(34, "a new row has zeros again", x.worth(1, 1, 1, 1, 999, 0, 0), 0);
    }

    private static void lanes() {
        int[][] kept = {{0, 256 + 5, 5}, {0, -256 + 5, 5}, {1, 65536 + 7, 7}, {0, MIN + 3, 3}, {1, MIN + 4, 4}, {2, 6, 6}};
        for (int[] k : kept) {
            OneOfEach x = chances(k[0], k[1]);
            due(36, "lowest bits of " + k[1], x.worth(1, k[0], 0, 1, 12, 0, 0), k[2]);
        }
        int[][] odd = {{0, 128}, {0, 255}, {1, 256 + 5}, {1, 32768}, {2, 256 + 5}, {2, 65536 + 7}};
        for (int[] k : odd) {
            due(36, "lowest bits of " + k[1], chances(k[0], k[1]).thrown(1, k[0], 0, 1, 12, 0), NOT);
        }
        due(36, "255 is -1 among bytes", told("al1", 0, 0, 255).judge(3, 0, 0), NONE);
        due(36, "255 is not -1 among shorts", told("al1", 1, 0, 255).judge(3, 1, 0), 0);
        due(36, "65535 is -1 among shorts", told("al1", 1, 0, 65535).judge(3, 1, 0), NONE);
    }
}
