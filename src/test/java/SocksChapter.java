/** Section 1 of the terms (socks, mondays) and promises 1 to 12. */
final class SocksChapter extends Chapter {
    SocksChapter(Book book) {
        super(book);
    }

    @Override
    void tell() {
        at("Terms");
        socks();
        settings();
        mondays();
        washing();
        likeness();
        fellowship();
        at("Promise 1");
        newObject();
        at("Promise 2");
        sock();
        at("Promise 3");
        type();
        at("Promise 4");
        texts();
        at("Promise 5");
        told();
        at("Promise 6");
        fade();
        at("Promise 7");
        set();
        at("Promise 8");
        monday();
        at("Promise 9");
        found();
        at("Promise 10");
        alike();
        at("Promise 11");
        fellows();
        at("Promise 12");
        count();
    }

    // ---- Terms: socks

    private void socks() {
        says("SOCKS 0 .. 11, as they come,", () -> {
            OneOfEach x = new OneOfEach();
            for (int i = 0; i < 12; i++) {
                due("sock " + i, x.sock(i % 6, 0, i, i), i);
            }
            for (int i = 0; i < 12; i++) {
                due("low of sock " + i, x.told(i, 2), i);
            }
            due("no sock 12", x.told(12, 2), BAD);
            due("no sock -1", x.told(-1, 2), BAD);
            OneOfEach y = house("al10,al11");
            due("behind a text", y.sock(0, 0, 12, 12), 2);
            put(y, "al13,al14");
            for (int i = 0; i < 5; i++) {
                due("low of sock " + i, y.told(i, 2), 10 + i);
            }
        });
        says("are of a KIND (0 .. 5, a .. f),", () -> {
            OneOfEach x = house("al1,bl1,cl1,dl1,el1,fl1");
            for (int kind = 0; kind < 6; kind++) {
                due("sock of kind " + kind, x.sock(kind, 0, 0, 0), 6 + kind);
                due("told kind", x.told(6 + kind, 0), kind);
                due("letter of kind " + kind, x.told(kind, 0), kind);
            }
            OneOfEach y = new OneOfEach();
            for (int kind : new int[] {-1, 6, MIN, MAX}) {
                due("kind " + kind, y.sock(kind, 0, 0, 0), BAD);
            }
            due("ahead of a", put(y, "`l1"), -20);
            due("behind f", put(y, "gl1"), -20);
        });
        says("LEFT (0) or RIGHT (1),", () -> {
            OneOfEach x = house("al1,ar1");
            x.sock(0, 0, 0, 0);
            x.sock(0, 1, 0, 0);
            for (int i = 0; i < 4; i++) {
                due("hand of sock " + i, x.told(i, 1), i % 2);
            }
            for (int hand : new int[] {-1, 2, MIN, MAX}) {
                due("hand " + hand, x.sock(0, hand, 0, 0), BAD);
            }
        });
        says("with a TONE known by ends LOW .. HIGH (0 .. 99),", () -> {
            int[][] fine = {{0, 0}, {0, 99}, {99, 99}, {50, 50}, {50, 51}};
            for (int[] ends : fine) {
                OneOfEach x = new OneOfEach();
                due("ends " + ends[0] + " " + ends[1], x.sock(0, 0, ends[0], ends[1]), 0);
                due("low", x.told(0, 2), ends[0]);
                due("high", x.told(0, 3), ends[1]);
            }
            int[][] wrong = {{-1, 0}, {-1, -1}, {0, 100}, {99, 100}, {100, 100}, {100, 99}, {1, 0}, {51, 50}, {0, -1}, {MIN, MAX}, {0, MAX}, {MIN, 0}};
            for (int[] ends : wrong) {
                due("ends " + ends[0] + " " + ends[1], new OneOfEach().sock(0, 0, ends[0], ends[1]), BAD);
            }
        });
        says("each in THE BOX (0; at first), LOST (1), or PAIRED (2) with another one.", () -> {
            OneOfEach x = house("al1,al1,bl1,cl1");
            x.sock(3, 0, 1, 1);
            for (int i = 0; i < 5; i++) {
                due("at first", x.told(i, 4), 0);
            }
            x.monday(4, 0);
            due("lost", x.told(2, 4), 1);
            x.pairUp();
            due("paired", x.told(0, 4), 2);
            due("paired", x.told(1, 4), 2);
            due("with the other one", x.told(0, 5), 1);
            due("with the other one", x.told(1, 5), 0);
            due("still in the box", x.told(3, 4), 0);
        });
    }

    private void settings() {
        says("FADE of a KIND is 0 .. 9 (0 at first).", () -> {
            OneOfEach x = new OneOfEach();
            for (int kind = 0; kind < 6; kind++) {
                due("at first", x.fade(kind, 9), 0);
                due("9", x.fade(kind, 0), 9);
                due("0", x.fade(kind, 10), BAD);
                due("below", x.fade(kind, -1), BAD);
                due("still 0", x.fade(kind, kind), 0);
            }
            for (int kind = 0; kind < 6; kind++) {
                due("each its own", x.fade(kind, 0), kind);
            }
        });
        says("LIKENESS is 0 .. 20 (5 at first);", () -> {
            OneOfEach x = new OneOfEach();
            due("at first", x.set(0, 20), 5);
            due("20", x.set(0, 0), 20);
            due("21", x.set(0, 21), BAD);
            due("-1", x.set(0, -1), BAD);
            due("0", x.set(0, 1), 0);
            OneOfEach y = house("al10,al15,al16");
            due("five apart, at first", y.alike(0, 1), 2);
            due("six apart, at first", y.alike(0, 2), 0);
        });
        says("HANDED is 0 or 1 (0 at first).", () -> {
            OneOfEach x = new OneOfEach();
            due("at first", x.set(1, 1), 0);
            due("2", x.set(1, 2), BAD);
            due("-1", x.set(1, -1), BAD);
            due("1", x.set(1, 0), 1);
            due("0", x.set(1, 0), 0);
            due("two left ones at first", house("al1,al1").fellows(0, 1), 0);
        });
    }

    // ---- Terms: mondays

    private void mondays() {
        says("MONDAYS 0 .. 11, as they come:", () -> {
            OneOfEach x = Make.twelve();
            for (int i = 0; i < 12; i++) {
                due("monday " + i, x.monday(1 << i, 0), 1);
                due("lost since", x.told(i, 7), i);
                due("so many", x.count(4), i + 1);
            }
            due("no monday 12", x.monday(0, 0), FULL);
            due("twelve", x.count(4), 12);
        });
        says("a set of SOCKS went (none LOST; of two that are PAIRED both or none),", () -> {
            OneOfEach x = house("al1,al1,bl1,cl1");
            x.pairUp();
            due("no sock at all", x.monday(0, 0), 0);
            due("the pair stays", x.monday(12, 12), 0);
            due("both go", x.monday(3, 3), 0);
            due("the one alone", x.monday(1, 1), NOT);
            due("the other one alone", x.monday(2, 2), NOT);
            due("the one with others", x.monday(13, 13), NOT);
            due("the other one with others", x.monday(14, 14), NOT);
            due("all go, one is lost", x.monday(15, 11), 1);
            due("the lost one alone", x.monday(4, 4), NOT);
            due("the lost one with others", x.monday(15, 15), NOT);
            due("all but the lost one", x.monday(11, 11), 0);
            due("refused ones are no mondays", x.count(4), 5);
        });
        says("some of these came back:", () -> {
            OneOfEach x = house("al1,bl1,cl1,dl1");
            due("all", x.monday(15, 15), 0);
            due("one that did not go", x.monday(1, 3), BAD);
            due("only one that did not go", x.monday(0, 1), BAD);
            due("three of four", x.monday(15, 7), 1);
            due("none", x.monday(7, 0), 3);
        });
        says("those that did not come back are LOST since (the other one of a pair then is in THE BOX).", () -> {
            OneOfEach x = house("al1,al1,bl1,bl1,cl1,cl1");
            x.monday(0, 0);
            x.pairUp();
            x.monday(15, 9);
            int[] where = {0, 1, 1, 0, 2, 2};
            int[] since = {NONE, 1, 1, NONE, NONE, NONE};
            int[] other = {NONE, NONE, NONE, NONE, 5, 4};
            for (int i = 0; i < 6; i++) {
                due("where sock " + i + " is", x.told(i, 4), where[i]);
                due("since when sock " + i + " is lost", x.told(i, 7), since[i]);
                due("the other one of sock " + i, x.told(i, 5), other[i]);
            }
            x.monday(48, 0);
            due("both of a pair", x.told(4, 4), 1);
            due("both of a pair", x.told(5, 4), 1);
            due("both since", x.told(4, 7), 2);
            due("both since", x.told(5, 7), 2);
            due("no more paired", x.told(5, 5), NONE);
        });
        says("What is FOUND is in THE BOX again.", () -> {
            OneOfEach x = house("al1,al1,bl1");
            x.pairUp();
            x.monday(3, 2);
            due("found", x.found(0), 0);
            due("in the box", x.told(0, 4), 0);
            due("in the box with the others", x.count(1), 3);
            due("not with its other one", x.told(0, 5), NONE);
            due("since no monday", x.told(0, 7), NONE);
            due("it may go again", x.monday(1, 1), 0);
        });
    }

    private void washing() {
        says("each that went has FADE of its KIND added to LOW and to HIGH (99 at most),", () -> {
            OneOfEach x = house("al10-20,al89-90,al90-91,al91-99,al99,bl10-20,al10-20,al10-20");
            x.fade(0, 9);
            x.fade(1, 1);
            x.monday(127, 63);
            x.fade(0, 0);
            int[] low = {19, 98, 99, 99, 99, 11, 19, 10};
            int[] high = {29, 99, 99, 99, 99, 21, 29, 20};
            for (int i = 0; i < 8; i++) {
                due("low of sock " + i, x.told(i, 2), low[i]);
                due("high of sock " + i, x.told(i, 3), high[i]);
            }
            due("the last but one was lost and went all the same", x.told(6, 4), 1);
            x.monday(1, 1);
            due("fade 0", x.told(0, 2), 19);
            due("fade 0", x.told(0, 3), 29);
        });
        says("each that went has FADE", () -> {
            OneOfEach x = house("al0-1");
            x.fade(0, 9);
            for (int i = 1; i <= 12; i++) {
                x.monday(1, 1);
                due("low by washes", x.told(0, 2), Math.min(99, 9 * i));
                due("high by washes", x.told(0, 3), Math.min(99, 1 + 9 * i));
            }
        });
    }

    // ---- Terms: which two

    private void likeness() {
        says("Two SOCKS are ALIKE for sure, if any two TONES within their ends are LIKENESS or less apart;", () -> {
            OneOfEach x = house("al10-12,al15-17,al15-18,al7-12,al6-12,al10-12");
            x.set(0, 7);
            due("seven apart at the ends", x.alike(0, 1), 2);
            due("eight apart at the ends", x.alike(0, 2), 1);
            x.set(0, 5);
            due("below, five apart", x.alike(0, 3), 2);
            due("below, six apart", x.alike(0, 4), 1);
            due("like ends", x.alike(0, 5), 2);
            x.set(0, 0);
            due("like ends that are not one tone", x.alike(0, 5), 1);
            OneOfEach y = house("al3,al3,al0-99,al0-20");
            y.set(0, 0);
            due("one tone", y.alike(0, 1), 2);
            y.set(0, 20);
            due("20 apart", y.alike(0, 3), 2);
            due("96 apart", y.alike(0, 2), 1);
        });
        says("they may be, if some two are.", () -> {
            OneOfEach x = house("al10-12,al17-30,al18-30,al1-5,al1-4,al0-99");
            due("five apart above", x.alike(0, 1), 1);
            due("six apart above", x.alike(0, 2), 0);
            due("five apart below", x.alike(0, 3), 1);
            due("six apart below", x.alike(0, 4), 0);
            due("within", x.alike(0, 5), 1);
            due("within, told the other way", x.alike(5, 0), 1);
            x.set(0, 0);
            due("no tone in both", x.alike(0, 1), 0);
            OneOfEach y = house("al10-12,al12-14,al13-14");
            y.set(0, 0);
            due("one tone in both", y.alike(0, 1), 1);
            due("none in both, one apart", y.alike(0, 2), 0);
            OneOfEach z = house("al0,al20-99,al21-99");
            z.set(0, 20);
            due("20 apart", z.alike(0, 1), 1);
            due("21 apart", z.alike(0, 2), 0);
        });
    }

    private void fellowship() {
        says("They may be FELLOWS, unless one of these bars it (bits):", () -> {
            OneOfEach x = house("al5,ar5,bl50,al5");
            due("nothing", x.fellows(0, 1), 0);
            x.monday(1, 1);
            x.set(1, 1);
            due("all four", x.fellows(0, 2), 15);
            due("all four, told the other way", x.fellows(2, 0), 15);
            due("two of them", x.fellows(0, 3), 10);
        });
        says("1 KINDS are unlike;", () -> {
            OneOfEach x = house("al5,bl5,al5,fl5");
            due("a and b", x.fellows(0, 1), 1);
            due("a and f", x.fellows(0, 3), 1);
            due("a and a", x.fellows(0, 2), 0);
        });
        says("2 by HANDED 1: both LEFT, both RIGHT;", () -> {
            OneOfEach x = house("al5,al5,ar5,ar5");
            due("handed 0: both left", x.fellows(0, 1), 0);
            due("handed 0: both right", x.fellows(2, 3), 0);
            x.set(1, 1);
            due("both left", x.fellows(0, 1), 2);
            due("both right", x.fellows(2, 3), 2);
            due("left and right", x.fellows(0, 2), 0);
            due("right and left", x.fellows(3, 1), 0);
            x.set(1, 0);
            due("handed 0 again", x.fellows(0, 1), 0);
        });
        says("4 they can't be ALIKE;", () -> {
            OneOfEach x = house("al5,al10,al11,al0-99");
            due("for sure", x.fellows(0, 1), 0);
            due("not", x.fellows(0, 2), 4);
            due("may be", x.fellows(0, 3), 0);
            x.set(0, 6);
            due("by the likeness of now", x.fellows(0, 2), 0);
            x.fade(0, 1);
            x.monday(12, 12);
            x.monday(3, 3);
            x.monday(4, 4);
            due("by the tones of now, and parted", x.fellows(0, 2), 12);
        });
        says("8 on some MONDAY one of them went", () -> {
            OneOfEach x = house("al5,al5,al5,al5");
            x.monday(3, 3);
            due("both went", x.fellows(0, 1), 0);
            due("none went", x.fellows(2, 3), 0);
            due("one went", x.fellows(0, 2), 8);
            due("one went, told the other way", x.fellows(2, 0), 8);
            due("the other one went", x.fellows(3, 1), 8);
            due("the other one went, told the other way", x.fellows(1, 3), 8);
            x.monday(12, 12);
            due("now the later two went", x.fellows(2, 3), 0);
            OneOfEach later = house("al5,al5,al5");
            later.monday(4, 4);
            due("the later one went", later.fellows(1, 2), 8);
            due("the later one went, told the other way", later.fellows(2, 1), 8);
            due("none went", later.fellows(0, 1), 0);
            OneOfEach first = house("al5,al5");
            OneOfEach last = house("al5,al5");
            for (int i = 0; i < 12; i++) {
                first.monday(i == 0 ? 1 : 3, i == 0 ? 1 : 3);
                due("not yet", last.fellows(0, 1), 0);
                last.monday(i == 11 ? 2 : 0, i == 11 ? 2 : 0);
            }
            due("on the first monday of twelve", first.fellows(0, 1), 8);
            due("on the last monday of twelve", last.fellows(0, 1), 8);
            OneOfEach y = house("al5,al5");
            y.monday(1, 0);
            due("it went and was lost", y.fellows(0, 1), 8);
            y.found(0);
            due("found again: it is known all the same", y.fellows(0, 1), 8);
        });
        says("and the other one, which was not LOST when it came, did not", () -> {
            OneOfEach x = house("al5,al5,al5");
            x.monday(3, 2);
            due("both went, one was lost by it", x.fellows(0, 1), 0);
            x.monday(2, 2);
            due("lost when the next one came", x.fellows(0, 1), 0);
            x.found(0);
            due("found since", x.fellows(0, 1), 0);
            x.monday(2, 2);
            due("not lost when this one came", x.fellows(0, 1), 8);
            OneOfEach y = house("al5,al5,al5");
            y.pairUp();
            y.monday(4, 4);
            due("paired, and so not lost", y.fellows(0, 2), 8);
        });
        says("(of MONDAYS at which both were there already).", () -> {
            OneOfEach x = house("al5");
            x.monday(1, 1);
            x.sock(0, 0, 5, 5);
            due("one came later", x.fellows(0, 1), 0);
            x.monday(0, 0);
            due("a monday for none", x.fellows(0, 1), 0);
            x.monday(2, 2);
            due("both were there", x.fellows(0, 1), 8);
        });
    }

    // ---- Promises 1 to 4

    private void newObject() {
        says("No SOCKS.", () -> {
            OneOfEach x = new OneOfEach();
            for (int what = 0; what <= 5; what++) {
                due("count " + what, x.count(what), 0);
            }
            for (int what = 0; what <= 7; what++) {
                due("told of sock 0", x.told(0, what), BAD);
            }
            due("a monday for sock 0", x.monday(1, 1), BAD);
            due("pairs", x.pairs(0), 0);
            due("sum", x.pairs(1), 0);
            due("pairUp", x.pairUp(), 0);
            due("worst", x.worst(), NONE);
            due("odds of none", x.odds(0, 0), 0);
            due("odds of none", x.odds(0, 1), 1);
            due("odds of one", x.odds(1, 0), NOT);
            due("ways", x.ways(), 1);
            due("seldom", x.seldom(0), NOT);
            due("lacks", x.lacks(0, 1), 0);
            due("the first one", x.sock(0, 0, 0, 0), 0);
        });
        says("No SOCKS.", () -> {
            OneOfEach full = Make.twelve();
            due("twelve", full.count(0), 12);
            due("another object has none", new OneOfEach().count(0), 0);
        });
    }

    private void sock() {
        says("A SOCK: its number.", () -> {
            OneOfEach x = new OneOfEach();
            due("the first", x.sock(5, 1, 7, 9), 0);
            due("the second", x.sock(5, 1, 7, 9), 1);
            due("kind", x.told(1, 0), 5);
            due("hand", x.told(1, 1), 1);
            due("low", x.told(1, 2), 7);
            due("high", x.told(1, 3), 9);
            due("whose", x.may(1, 7), 7);
        });
        says("BAD;", () -> {
            OneOfEach x = new OneOfEach();
            int[][] wrong = {{-1, 0, 0, 0}, {6, 0, 0, 0}, {0, -1, 0, 0}, {0, 2, 0, 0}, {0, 0, -1, 0}, {0, 0, 0, 100}, {0, 0, 1, 0}};
            for (int[] w : wrong) {
                due(java.util.Arrays.toString(w), x.sock(w[0], w[1], w[2], w[3]), BAD);
            }
            due("none came", x.count(0), 0);
        });
        says("FULL: 12.", () -> {
            OneOfEach x = new OneOfEach();
            for (int i = 0; i < 11; i++) {
                x.sock(0, 0, 0, 0);
            }
            due("the twelfth", x.sock(0, 0, 0, 0), 11);
            due("the thirteenth", x.sock(0, 0, 0, 0), FULL);
            due("still twelve", x.count(0), 12);
        });
    }

    private void type() {
        says("The n lowest bytes (1 .. 8) of w,", () -> {
            OneOfEach x = new OneOfEach();
            due("one of eight", x.type(Make.word("cr50-60a"), 1), 1);
            due("two of eight", x.type(Make.word("ffffffl7"), 2), 3);
            due("the text 'al7'", x.socks(), 1);
            due("low", x.told(0, 2), 7);
            due("all eight", x.type(Make.word("br8-19:z"), 8), 8);
            due("the text 'br8-19:z'", x.socks(), 1);
            due("high", x.told(1, 3), 19);
            due("whose", x.may(1, 7), 4);
            due("higher bytes may be any", x.type(0x8000FF1F7F00000AL << 8 | 'a', 1), 1);
            due("seven with a wrong byte above", x.type(0xFF00000000000000L | Make.word("l7-9:xy"), 7), 8);
            due("the text 'al7-9:xy'", x.socks(), 1);
        });
        says("of these the highest first,", () -> {
            OneOfEach x = new OneOfEach();
            x.type('a' << 24 | 'r' << 16 | '1' << 8 | '2', 4);
            due("the text 'ar12'", x.socks(), 1);
            due("low", x.told(0, 2), 12);
        });
        says("come behind THE TAPE: how many it has.", () -> {
            OneOfEach x = new OneOfEach();
            due("a", x.type('a', 1), 1);
            due("l", x.type('l', 1), 2);
            due("12", x.type(Make.word("12"), 2), 4);
            due("-13:xyz", x.type(Make.word("-13:xyz"), 7), 11);
            due("the text 'al12-13:xyz'", x.socks(), 1);
            due("high", x.told(0, 3), 13);
            due("the tape is new then", x.type(' ', 1), 1);
        });
        says("BAD: n,", () -> {
            OneOfEach x = new OneOfEach();
            for (int n : new int[] {0, 9, -1, 16, 64, MIN, MAX}) {
                due("n " + n, x.type(Make.word("aaaaaaaa"), n), BAD);
            }
            due("nothing came", x.type('a', 1), 1);
        });
        says("a byte not 32 .. 126;", () -> {
            OneOfEach x = new OneOfEach();
            int length = 0;
            for (int sign = 0; sign < 256; sign++) {
                if (sign < 32 || sign > 126) {
                    due("byte " + sign, x.type(sign, 1), BAD);
                } else if (length < 80) {
                    length++;
                    due("byte " + sign, x.type(sign, 1), length);
                }
            }
            for (int place = 0; place < 8; place++) {
                OneOfEach y = new OneOfEach();
                long fine = Make.word("aaaaaaaa");
                long cleared = fine & ~(255L << 8 * place);
                due("byte 32 at place " + place, y.type(cleared | 32L << 8 * place, 8), 8);
                due("byte 126 at place " + place, y.type(cleared | 126L << 8 * place, 8), 16);
                due("byte 31 at place " + place, y.type(cleared | 31L << 8 * place, 8), BAD);
                due("byte 127 at place " + place, y.type(cleared | 127L << 8 * place, 8), BAD);
                due("byte 255 at place " + place, y.type(cleared | 255L << 8 * place, 8), BAD);
                due("byte 128 at place " + place, y.type(cleared | 128L << 8 * place, 8), BAD);
                due("none of them came", y.type('a', 1), 17);
            }
        });
        says("FULL: 80.", () -> {
            OneOfEach x = new OneOfEach();
            for (int i = 1; i <= 9; i++) {
                due("word " + i, x.type(Make.word("        "), 8), 8 * i);
            }
            due("79", x.type(Make.word("       "), 7), 79);
            due("81", x.type(Make.word("al"), 2), FULL);
            due("87", x.type(Make.word("al9,al99"), 8), FULL);
            due("80", x.type('a', 1), 80);
            due("one more", x.type('l', 1), FULL);
            due("the text is 79 blanks and a", x.socks(), -100);
            OneOfEach y = new OneOfEach();
            Make.typed(y, "al1,al1,al1,al1,al1,al1,al1,al1" + " ".repeat(48));
            due("79", y.type(' ', 1), 80);
            due("80 bytes are read", y.socks(), 8);
            due("80 bytes", Make.typed(y, " ".repeat(76) + "al17"), 80);
            due("80 bytes, the last one a digit", y.socks(), 1);
            due("low", y.told(8, 2), 17);
            due("80 bytes, the last one a lodger", put(y, " ".repeat(75) + "al1:z"), 1);
            due("80 bytes, the last one wrong", put(y, " ".repeat(76) + "al1;"), -99);
        });
    }

    private void texts() {
        says("THE TAPE, which is empty then, is SOCKS: how many.", () -> {
            OneOfEach x = new OneOfEach();
            due("one", put(x, "al1"), 1);
            due("empty then", x.type(' ', 1), 1);
            due("nothing but a blank", x.socks(), -21);
            due("empty then", x.type(' ', 1), 1);
            x.socks();
            due("an empty tape", x.socks(), -20);
            due("eight", put(x, "al1,al1,al1,al1,al1,al1,al1,al1"), 8);
            due("empty then", x.socks(), -20);
            due("so many", x.count(0), 9);
            due("a long one", put(x, "bl98-99:xyz"), 1);
            due("a short one behind it", put(x, "bl9"), 1);
            due("nothing of the long one is left", x.told(10, 2), 9);
            due("nothing of the long one is left", x.told(10, 3), 9);
            due("nothing of the long one is left", x.may(10, 7), 7);
        });
        says("A FAULT (none comes);", () -> {
            OneOfEach x = new OneOfEach();
            due("fault in the last", put(x, "al1,br2,cl100"), -30);
            due("none came", x.count(0), 0);
            due("the tape is empty then", x.type('a', 1), 1);
            due("fault at the end", put(x, "l1,"), -24);
            due("none came", x.count(0), 0);
            due("the next is the first", x.sock(0, 0, 0, 0), 0);
        });
        says("FULL: not all have room (none comes).", () -> {
            OneOfEach x = house("al1,al1,al1,al1,al1,al1,al1,al1");
            due("five where four have room", put(x, "bl1,bl1,bl1,bl1,bl1"), FULL);
            due("none came", x.count(0), 8);
            due("the tape is empty then", x.socks(), -20);
            due("four", put(x, "bl1,bl1,bl1,bl1"), 4);
            due("all have room", x.count(0), 12);
            due("one more", put(x, "bl1"), FULL);
            due("twelve", x.count(0), 12);
        });
    }

    // ---- Promises 5 to 9

    private void told() {
        says("Of a SOCK: 0 KIND, 1 LEFT or RIGHT, 2 LOW, 3 HIGH, 4 where it is,", () -> {
            OneOfEach x = house("fr3-98,al1,al1");
            int[] want = {5, 1, 3, 98, 0};
            for (int what = 0; what < 5; what++) {
                due("told " + what, x.told(0, what), want[what]);
            }
            x.monday(1, 0);
            due("lost", x.told(0, 4), 1);
            x.pairUp();
            due("paired", x.told(2, 4), 2);
        });
        says("5 its other one (NONE: not PAIRED),", () -> {
            OneOfEach x = house("al1,bl1,al1");
            due("in the box", x.told(0, 5), NONE);
            x.pairUp();
            due("paired", x.told(0, 5), 2);
            due("paired", x.told(2, 5), 0);
            due("left over", x.told(1, 5), NONE);
            x.monday(5, 4);
            due("lost", x.told(0, 5), NONE);
            due("the other one of a lost one", x.told(2, 5), NONE);
            x.found(0);
            x.pairUp();
            due("paired again", x.told(2, 5), 0);
            x.part(0);
            due("parted", x.told(0, 5), NONE);
            due("parted", x.told(2, 5), NONE);
        });
        says("6 on how many MONDAYS it went,", () -> {
            OneOfEach x = house("al1,al1,al1");
            due("none", x.told(0, 6), 0);
            for (int i = 0; i < 12; i++) {
                x.monday(i == 11 ? 3 : 1, i == 11 ? 1 : 1);
            }
            due("all twelve", x.told(0, 6), 12);
            due("on the one that it was lost by", x.told(1, 6), 1);
            due("never", x.told(2, 6), 0);
            x.sock(0, 0, 0, 0);
            due("came later", x.told(3, 6), 0);
            x.found(1);
            due("found", x.told(1, 6), 1);
        });
        says("7 the MONDAY since which it is LOST (NONE: it is not).", () -> {
            OneOfEach x = house("al1,al1,al1");
            due("in the box", x.told(0, 7), NONE);
            x.monday(1, 0);
            x.monday(6, 4);
            due("the first", x.told(0, 7), 0);
            due("the second", x.told(1, 7), 1);
            due("came back", x.told(2, 7), NONE);
            x.found(0);
            due("found", x.told(0, 7), NONE);
            x.monday(1, 0);
            due("lost again", x.told(0, 7), 2);
        });
        says("BAD.", () -> {
            OneOfEach x = house("al1,al1");
            for (int sock : new int[] {-1, 2, 11, 12, MIN, MAX}) {
                due("sock " + sock, x.told(sock, 0), BAD);
            }
            for (int what : new int[] {-1, 8, MIN, MAX}) {
                due("what " + what, x.told(0, what), BAD);
            }
        });
    }

    private void fade() {
        says("FADE of a KIND: what it was.", () -> {
            OneOfEach x = new OneOfEach();
            due("at first", x.fade(3, 4), 0);
            due("then", x.fade(3, 4), 4);
            due("another one", x.fade(2, 0), 0);
        });
        says("BAD.", () -> {
            OneOfEach x = new OneOfEach();
            for (int kind : new int[] {-1, 6, MIN, MAX}) {
                due("kind " + kind, x.fade(kind, 1), BAD);
            }
            for (int v : new int[] {-1, 10, MIN, MAX}) {
                due("v " + v, x.fade(0, v), BAD);
            }
            due("still 0", x.fade(0, 0), 0);
        });
    }

    private void set() {
        says("LIKENESS (0), HANDED (1): what it was.", () -> {
            OneOfEach x = new OneOfEach();
            due("likeness", x.set(0, 1), 5);
            due("handed", x.set(1, 1), 0);
            due("likeness", x.set(0, 7), 1);
            due("handed", x.set(1, 0), 1);
            due("likeness", x.set(0, 0), 7);
        });
        says("BAD.", () -> {
            OneOfEach x = new OneOfEach();
            for (int what : new int[] {-1, 2, MIN, MAX}) {
                due("what " + what, x.set(what, 0), BAD);
            }
            for (int v : new int[] {-1, 21, MIN, MAX}) {
                due("likeness " + v, x.set(0, v), BAD);
            }
            for (int v : new int[] {-1, 2, MIN, MAX}) {
                due("handed " + v, x.set(1, v), BAD);
            }
            due("likeness as it was", x.set(0, 5), 5);
            due("handed as it was", x.set(1, 0), 0);
        });
    }

    private void monday() {
        says("A MONDAY: how many are LOST by it.", () -> {
            OneOfEach x = Make.twelve();
            due("nobody went", x.monday(0, 0), 0);
            due("all came back", x.monday(4095, 4095), 0);
            due("one is lost", x.monday(4095, 4094), 1);
            due("of those lost before none counts", x.monday(4094, 4092), 1);
            due("all that are left", x.monday(4092, 0), 10);
            due("nobody is left", x.monday(0, 0), 0);
        });
        says("BAD: a set names a SOCK that is not there,", () -> {
            OneOfEach x = house("al1,al1");
            for (int set : new int[] {4, 7, 1 << 11, 1 << 12, 1 << 30, MIN, MAX, -1}) {
                due("went " + set, x.monday(set, 0), BAD);
                due("went and came back " + set, x.monday(set, set), BAD);
                due("came back " + set, x.monday(3, set), BAD);
            }
            due("all that are there", x.monday(3, 3), 0);
            OneOfEach full = Make.twelve();
            due("sock 12 of twelve", full.monday(1 << 12, 0), BAD);
            due("sock 11 of twelve", full.monday(1 << 11, 0), 1);
        });
        says("one came back that did not go;", () -> {
            OneOfEach x = house("al1,al1");
            due("the other one", x.monday(1, 2), BAD);
            due("both", x.monday(1, 3), BAD);
            due("nobody went", x.monday(0, 1), BAD);
            due("no monday", x.count(4), 0);
        });
        says("NOT: one that is LOST went,", () -> {
            OneOfEach x = house("al1,al1");
            x.monday(1, 0);
            due("alone", x.monday(1, 0), NOT);
            due("and came back", x.monday(1, 1), NOT);
            due("with another one", x.monday(3, 2), NOT);
            due("one monday", x.count(4), 1);
            due("went once", x.told(0, 6), 1);
            x.found(0);
            due("found", x.monday(1, 1), 0);
        });
        says("one of a pair alone did;", () -> {
            OneOfEach x = house("al1,bl1,al1,bl1");
            x.pairUp();
            for (int set : new int[] {1, 2, 4, 8, 3, 6, 9, 12, 7, 11, 13, 14}) {
                due("went " + set, x.monday(set, set), NOT);
            }
            due("no monday", x.count(4), 0);
            due("both", x.monday(5, 5), 0);
            due("all", x.monday(15, 15), 0);
            x.part(0);
            due("parted", x.monday(1, 1), 0);
        });
        says("FULL: 12.", () -> {
            OneOfEach x = house("al1");
            x.fade(0, 1);
            for (int i = 0; i < 12; i++) {
                due("monday " + i, x.monday(1, 1), 0);
            }
            due("one more", x.monday(1, 0), FULL);
            due("one more for none", x.monday(0, 0), FULL);
            due("no fade by it", x.told(0, 2), 13);
            due("not lost by it", x.told(0, 4), 0);
            due("twelve", x.count(4), 12);
        });
    }

    private void found() {
        says("A SOCK is FOUND: since which MONDAY it was LOST.", () -> {
            OneOfEach x = house("al1,al1");
            x.monday(1, 0);
            for (int i = 1; i < 11; i++) {
                x.monday(0, 0);
            }
            x.monday(2, 0);
            due("the first", x.found(0), 0);
            due("the last", x.found(1), 11);
            due("both in the box", x.count(1), 2);
        });
        says("BAD;", () -> {
            OneOfEach x = house("al1");
            x.monday(1, 0);
            for (int sock : new int[] {-1, 1, 12, MIN, MAX}) {
                due("sock " + sock, x.found(sock), BAD);
            }
        });
        says("NOT: it is not LOST.", () -> {
            OneOfEach x = house("al1,al1,bl1");
            due("in the box", x.found(0), NOT);
            x.pairUp();
            due("paired", x.found(0), NOT);
            due("still paired", x.told(0, 5), 1);
            x.monday(4, 0);
            due("lost", x.found(2), 0);
            due("found already", x.found(2), NOT);
        });
    }

    // ---- Promises 10 to 12

    private void alike() {
        says("ALIKE: 2 for sure, 1 they may be, 0 not.", () -> {
            OneOfEach x = house("al10,br15,cl15-16,al16");
            due("for sure", x.alike(0, 1), 2);
            due("they may be", x.alike(0, 2), 1);
            due("not", x.alike(0, 3), 0);
            x.monday(3, 0);
            due("lost ones too", x.alike(0, 1), 2);
            due("a lost one too", x.alike(2, 0), 1);
        });
        says("BAD: also one SOCK.", () -> {
            OneOfEach x = house("al1,al1");
            due("one sock", x.alike(0, 0), BAD);
            due("one sock", x.alike(1, 1), BAD);
            for (int sock : new int[] {-1, 2, 12, MIN, MAX}) {
                due("sock " + sock, x.alike(sock, 0), BAD);
                due("and sock " + sock, x.alike(0, sock), BAD);
                due("twice " + sock, x.alike(sock, sock), BAD);
            }
        });
    }

    private void fellows() {
        says("What bars that they are FELLOWS, as bits (0: nothing).", () -> {
            OneOfEach x = house("al1,al1,bl1");
            due("nothing", x.fellows(0, 1), 0);
            due("kinds", x.fellows(1, 2), 1);
            x.set(1, 1);
            due("kinds and hands", x.fellows(1, 2), 3);
            x.set(1, 0);
            x.pairUp();
            due("paired ones", x.fellows(0, 1), 0);
            x.monday(3, 0);
            due("lost ones", x.fellows(0, 1), 0);
        });
        says("BAD: also one SOCK.", () -> {
            OneOfEach x = house("al1,al1");
            due("one sock", x.fellows(0, 0), BAD);
            due("one sock", x.fellows(1, 1), BAD);
            for (int sock : new int[] {-1, 2, 12, MIN, MAX}) {
                due("sock " + sock, x.fellows(sock, 0), BAD);
                due("and sock " + sock, x.fellows(0, sock), BAD);
                due("twice " + sock, x.fellows(sock, sock), BAD);
            }
        });
    }

    private void count() {
        says("How many: 0 SOCKS, 1 in THE BOX, 2 LOST, 3 PAIRED, 4 MONDAYS, 5 LEFT ones that are LOST.", () -> {
            OneOfEach x = house("al1,ar1,br1,bl1,cl1,dr1,er1,fl1");
            x.pairUp();
            x.monday(112, 0);
            x.monday(0, 0);
            int[] want = {8, 1, 3, 4, 2, 1};
            for (int what = 0; what < 6; what++) {
                due("count " + what, x.count(what), want[what]);
            }
            OneOfEach all = Make.twelve();
            due("twelve in the box", all.count(1), 12);
            all.pairUp();
            due("none in the box", all.count(1), 0);
            due("twelve paired", all.count(3), 12);
            all.monday(4095, 0);
            due("twelve lost", all.count(2), 12);
            due("none paired", all.count(3), 0);
            due("twelve left ones lost", all.count(5), 12);
        });
        says("BAD.", () -> {
            for (int what : new int[] {-1, 6, MIN, MAX}) {
                due("what " + what, new OneOfEach().count(what), BAD);
            }
        });
    }
}
