/** Section 3 of the terms (owners, who takes, buying, marks, texts) and promises 22 to 33. */
final class OwnersChapter extends Chapter {
    OwnersChapter(Book book) {
        super(book);
    }

    @Override
    void tell() {
        at("Terms");
        owners();
        takenAndBought();
        sewnIn();
        textsOfSocks();
        faults();
        at("Promise 22");
        owns();
        at("Promise 23");
        may();
        at("Promise 24");
        bind();
        at("Promise 25");
        ways();
        at("Promise 26");
        whose();
        at("Promise 27");
        seldom();
        at("Promise 28");
        lacks();
        at("Promise 29");
        wish();
        at("Promise 30");
        buy();
        at("Promise 31");
        marks();
        at("Promise 32");
        image();
        at("Promise 33");
        restore();
    }

    // ---- Terms: owners

    private void owners() {
        says("LODGERS 0 .. 2 OWN of each KIND LEAST .. MOST SOCKS (0 .. 12 at first).", () -> {
            OneOfEach x = new OneOfEach();
            for (int lodger = 0; lodger < 3; lodger++) {
                for (int kind = 0; kind < 6; kind++) {
                    due("at first", x.owns(lodger, kind, kind, 6 + lodger), 12 * 16);
                }
            }
            for (int lodger = 0; lodger < 3; lodger++) {
                for (int kind = 0; kind < 6; kind++) {
                    due("each its own", x.owns(lodger, kind, 0, 12), kind + 16 * (6 + lodger));
                }
            }
            due("no lodger -1", x.owns(-1, 0, 0, 12), BAD);
            due("no lodger 3", x.owns(3, 0, 0, 12), BAD);
            for (int lodger = 0; lodger < 3; lodger++) {
                OneOfEach y = house("al1,al1,bl1");
                y.owns(lodger, 0, 2, 2);
                due("both", y.ways(), 3);
                y.owns(lodger, 0, 3, 12);
                due("more than there are", y.ways(), 0);
                y.owns(lodger, 0, 1, 2);
                due("one at least", y.ways(), 5 * 3);
                y.owns(lodger, 0, 0, 1);
                due("one at most", y.ways(), 8 * 3);
                y.owns(lodger, 0, 0, 0);
                due("none", y.ways(), 4 * 3);
                y.owns(lodger, 0, 0, 2);
                due("as at first", y.ways(), 27);
                y.owns(lodger, 1, 1, 1);
                due("of the other kind", y.ways(), 9);
            }
            due("twelve", allOf(0).ways(), 1);
        });
        says("A SOCK MAY BE that of some (all three at first).", () -> {
            OneOfEach x = house("al1");
            x.sock(0, 0, 0, 0);
            due("by a text", x.may(0, 1), 7);
            due("by sock", x.may(1, 6), 7);
            due("whose", x.whose(0), 1);
            due("whose", x.whose(1), 6);
            due("ways", x.ways(), 2);
        });
        says("BOUND are two SOCKS of one KIND that have one owner.", () -> {
            OneOfEach x = house("al1,ar99,al1,bl1");
            due("none bound", x.ways(), 81);
            due("bound, though tones and hands are unlike", x.bind(0, 1), 1);
            due("two bound", x.ways(), 27);
            x.bind(1, 2);
            due("three bound", x.ways(), 9);
            due("of unlike kinds", x.bind(0, 3), NOT);
            due("of unlike kinds, told the other way", x.bind(3, 2), NOT);
        });
        says("WAYS: owners for all SOCKS, as they MAY BE, BOUND ones alike, so that each OWNS as told.", () -> {
            due("no socks", new OneOfEach().ways(), 1);
            OneOfEach x = house("al1:xy,al1:yz,bl1:z");
            due("as they may be", x.ways(), 4);
            x.bind(0, 1);
            due("bound ones alike", x.ways(), 1);
            due("whose", x.whose(0), 2);
            x.owns(1, 0, 0, 1);
            due("not as told", x.ways(), 0);
            OneOfEach y = house("al1:x,al1:z");
            y.bind(0, 1);
            due("bound ones with no owner for both", y.ways(), 0);
            OneOfEach z = house("al1,al1,bl1");
            z.pairUp();
            z.monday(4, 0);
            due("paired and lost ones too", z.ways(), 27);
        });
    }

    /** Twelve socks that are all of one lodger. */
    private static OneOfEach allOf(int lodger) {
        OneOfEach x = Make.twelve();
        x.owns(lodger, 0, 12, 12);
        return x;
    }

    // ---- Terms: who takes, buying

    private void seldomIs(String call, OneOfEach x, int above, int below) {
        due(call + ", above", x.seldom(0), above);
        due(call + ", below", x.seldom(1), below);
    }

    private void takenAndBought() {
        says("SELDOM: of all SOCKS so many are LOST; the odds, if all sets of so many were alike likely,", () -> {
            OneOfEach x = house("al1,bl1,ar1,br1,cr1");
            x.monday(1, 0);
            seldomIs("one of five, two are left ones", x, 2, 5);
            x.monday(2, 0);
            seldomIs("two of five", x, 1, 10);
            x.pairUp();
            put(x, "dl1");
            seldomIs("two of six, three are left ones", x, 1, 5);
            OneOfEach all = Make.twelve();
            all.monday(4095, 0);
            seldomIs("all of twelve", all, 1, 1);
        });
        says("that as many LEFT ones as are LOST now or more were among them, in lowest terms.", () -> {
            OneOfEach x = house("al1,al1,ar1,ar1");
            x.monday(5, 0);
            seldomIs("one left one or two", x, 5, 6);
            x.found(0);
            x.monday(8, 0);
            seldomIs("no left one or more", x, 1, 1);
            x.found(2);
            x.found(3);
            x.monday(3, 0);
            seldomIs("both left ones", x, 1, 6);
            x.monday(4, 0);
            seldomIs("both left ones and a right one", x, 1, 2);
            x.found(0);
            seldomIs("one of each", x, 5, 6);
        });
        says("A WISH of a LODGER is a set of KINDS that would do (none: no WISH).", () -> {
            OneOfEach x = new OneOfEach();
            due("no wishes", x.buy(), 0);
            x.wish(1, 8);
            due("one wish", x.buy(), 8);
            x.wish(1, 0);
            due("no wish again", x.buy(), 0);
            x.wish(2, 63);
            due("any would do", x.buy(), 1);
        });
        says("THE BUY: the fewest KINDS so that each WISH has one of them,", () -> {
            OneOfEach x = new OneOfEach();
            x.wish(0, 1 + 32);
            x.wish(1, 2 + 32);
            x.wish(2, 4 + 32);
            due("one for all, not three lesser ones", x.buy(), 32);
            x.wish(2, 16);
            due("two", x.buy(), 16 + 32);
            x.wish(0, 1);
            x.wish(1, 8);
            due("three", x.buy(), 1 + 8 + 16);
        });
        says("of like ones the least set.", () -> {
            OneOfEach x = new OneOfEach();
            x.wish(0, 2 + 16);
            due("the least of two", x.buy(), 2);
            x.wish(1, 4 + 8);
            due("the least of four", x.buy(), 6);
            x.wish(2, 8 + 16);
            due("10, 20 and 24 would do, 6 would not", x.buy(), 10);
        });
    }

    // ---- Terms: marks

    private void marksAre(OneOfEach x, int m, int t, int n, int... row) {
        String call = m + " owners, " + t + " threads lost: ";
        due(call + "n", x.marks(m, t, -1), n);
        for (int i = 0; i < row.length; i++) {
            due(call + "mark " + i, x.marks(m, t, i), row[i]);
        }
    }

    private void sewnIn() {
        says("MARKS of n threads are rows of n places with a thread or without one (bits; bit 0 the first).", () -> {
            OneOfEach x = new OneOfEach();
            marksAre(x, 1, 0, 1, 0);
            marksAre(x, 2, 0, 1, 0, 1);
            marksAre(x, 4, 0, 2, 0, 1, 2, 3);
        });
        says("They hold t, if no two can become alike though each loses t threads or fewer.", () -> {
            OneOfEach x = new OneOfEach();
            marksAre(x, 2, 0, 1, 0, 1);
            marksAre(x, 2, 1, 2, 0, 3);
            marksAre(x, 2, 2, 3, 0, 7);
            marksAre(x, 2, 3, 4, 0, 15);
            marksAre(x, 3, 1, 4, 0, 3, 12);
        });
        says("For m owners (1 .. 5):", () -> {
            OneOfEach x = new OneOfEach();
            for (int m = 1; m <= 5; m++) {
                due("first mark of " + m, x.marks(m, 0, 0), 0);
                due("last mark of " + m, x.marks(m, 0, m - 1), m - 1);
            }
            for (int m : new int[] {0, 6, -1, MIN, MAX}) {
                due("m " + m, x.marks(m, 0, -1), BAD);
                due("m " + m, x.marks(m, 0, 0), BAD);
            }
        });
        says("the least n (1 .. 6) for which m MARKS hold t (0 .. 3),", () -> {
            OneOfEach x = new OneOfEach();
            int[][] n = {{1, 1, 1, 1}, {1, 2, 3, 4}, {2, 4, 6, NONE}, {2, 4, 6, NONE}, {3, 5, NONE, NONE}};
            for (int m = 1; m <= 5; m++) {
                for (int t = 0; t <= 3; t++) {
                    due(m + " owners, " + t + " threads lost", x.marks(m, t, -1), n[m - 1][t]);
                }
                due("t -1", x.marks(m, -1, -1), BAD);
                due("t 4", x.marks(m, 4, -1), BAD);
            }
        });
        says("of like ones the first as a rising row.", () -> {
            OneOfEach x = new OneOfEach();
            marksAre(x, 3, 0, 2, 0, 1, 2);
            marksAre(x, 5, 0, 3, 0, 1, 2, 3, 4);
            marksAre(x, 4, 1, 4, 0, 3, 12, 15);
            marksAre(x, 5, 1, 5, 0, 3, 12, 15, 21);
            marksAre(x, 3, 2, 6, 0, 7, 56);
            marksAre(x, 4, 2, 6, 0, 7, 56, 63);
        });
    }

    // ---- Terms: texts

    private void reads(String text, int want) {
        OneOfEach x = new OneOfEach();
        due("'" + text + "'", put(x, text), want);
        due("socks by '" + text + "'", x.count(0), Math.max(0, want));
    }

    private void endsOf(String text, int low, int high) {
        OneOfEach x = house(text);
        due("low of '" + text + "'", x.told(0, 2), low);
        due("high of '" + text + "'", x.told(0, 3), high);
    }

    private void textsOfSocks() {
        says("SOCKS are a TEXT: 1 to 8 with , between:", () -> {
            reads("", -20);
            reads("al1", 1);
            reads("al1,al1", 2);
            reads("al1,al1,al1,al1,al1,al1,al1,al1", 8);
            reads("al1,al1,al1,al1,al1,al1,al1,al1,al1", -51);
            reads("al1,al1,al1,al1,al1,al1,al1,al1,", -51);
            reads("al1,", -24);
            reads(",al1", -20);
            reads("al1,,al1", -24);
            reads("al1al1", -23);
            reads("al1 al1", -24);
        });
        says("a KIND (a .. f), l or r,", () -> {
            for (int kind = 0; kind < 6; kind++) {
                OneOfEach x = house((char) ('a' + kind) + "l1," + (char) ('a' + kind) + "r1");
                due("kind", x.told(0, 0), kind);
                due("left", x.told(0, 1), 0);
                due("right", x.told(1, 1), 1);
            }
            for (char c : "gzAF`@l1-:,".toCharArray()) {
                reads(c + "l1", -20);
            }
            for (char c : "akmqsLRf1-:,".toCharArray()) {
                reads("a" + c + "1", -21);
            }
        });
        says("a number (0 .. 99; LOW),", () -> {
            endsOf("al0", 0, 0);
            endsOf("al9", 9, 9);
            endsOf("al10", 10, 10);
            endsOf("al99", 99, 99);
            reads("al100", -22);
            reads("al999", -22);
            reads("al4294967296", -22);
            reads("al18446744073709551617", -22);
            reads("al", -22);
            reads("al-1", -22);
            reads("al:x", -22);
            reads("al,", -22);
            reads("al/", -22);
            reads("al;", -22);
        });
        says("then perhaps - and a number (HIGH, no less, to 99; else it is LOW),", () -> {
            endsOf("al5-6", 5, 6);
            endsOf("al5-5", 5, 5);
            endsOf("al0-99", 0, 99);
            endsOf("al5", 5, 5);
            endsOf("al5:x", 5, 5);
            reads("al5-4", -24);
            reads("al99-98", -25);
            reads("al5-100", -24);
            reads("al5-4294967302", -24);
            reads("al5-", -24);
            reads("al5--6", -24);
            reads("al5-:x", -24);
            reads("al5-6-7", -25);
            reads("al5-6,", -26);
        });
        says("then perhaps : and LODGERS (x y z, rising, one at least: whose it MAY BE).", () -> {
            String[] lodgers = {"x", "y", "xy", "z", "xz", "yz", "xyz"};
            for (int set = 1; set <= 7; set++) {
                due("'al1:" + lodgers[set - 1] + "'", house("al1:" + lodgers[set - 1]).may(0, 7), set);
                due("'al1-2:" + lodgers[set - 1] + "'", house("al1-2:" + lodgers[set - 1]).may(0, 7), set);
            }
            due("without", house("al1").may(0, 1), 7);
            reads("al1:", -24);
            reads("al1:,bl1", -24);
            reads("al1:w", -24);
            reads("al1:{", -24);
            reads("al1:X", -24);
            reads("al1:x:y", -25);
            reads("al1:x-2", -25);
            reads("al1:x1", -25);
            reads("al1::x", -24);
        });
    }

    private void faults() {
        says("FAULTS: -20 less the place of the first byte", () -> {
            reads("?", -20);
            reads("a?", -21);
            reads("al?", -22);
            reads("al1?", -23);
            reads("al1-?", -24);
            reads("al1-2?", -25);
            reads("al1:?", -24);
            reads("al1:x?", -25);
            reads("al1,?", -24);
            reads("al1,a?,al?", -25);
            reads("al1,al1,al1,al1,al1,al1,al1,al1" + " ".repeat(48) + "?", -99);
        });
        says("(blanks do not count, but end a number) that can't stand there", () -> {
            reads(" a l 1 - 2 : x y , b r 3 ", 2);
            reads("  ?", -22);
            reads("a  l  1  2", -29);
            reads("al1 0", -24);
            reads("al1-2 0", -26);
            reads("al1 - 2 : x z y", -34);
            endsOf(" a l 10 - 20 ", 10, 20);
            due("blanks among lodgers", house("al1: x z").may(0, 7), 5);
            reads("al9 ,al1 0", -29);
        });
        says("(the end: how many bytes there are);", () -> {
            reads("", -20);
            reads(" ", -21);
            reads("a", -21);
            reads("al", -22);
            reads("al  ", -24);
            reads("al1-", -24);
            reads("al1- ", -25);
            reads("al1:", -24);
            reads("al1:  ", -26);
            reads("al1,", -24);
            reads("al1, ", -25);
            reads(" ".repeat(80), -100);
        });
        says("of a number that may not be its first byte;", () -> {
            reads("al100", -22);
            reads("al 100", -23);
            reads("al1-100", -24);
            reads("al50-49", -25);
            reads("al50 - 49", -27);
            reads("al100?", -22);
            reads("al1,bl100,cl100", -26);
            reads("al00099", 1);
            reads("al000100", -22);
        });
        says("of a LODGER that is not above the one ahead it.", () -> {
            reads("al1:xx", -25);
            reads("al1:yx", -25);
            reads("al1:zx", -25);
            reads("al1:zy", -25);
            reads("al1:zz", -25);
            reads("al1:xzy", -26);
            reads("al1:xyy", -26);
            reads("al1:xyzz", -27);
            reads("al1:xyzx", -27);
            reads("al1:y x", -26);
        });
    }

    // ---- Promises 22 to 26

    private void owns() {
        says("A LODGER OWNS least .. most SOCKS (0 .. 12) of a KIND: LEAST and 16 MOST that were, together.", () -> {
            OneOfEach x = new OneOfEach();
            due("at first", x.owns(2, 5, 0, 0), 192);
            due("none", x.owns(2, 5, 12, 12), 0);
            due("twelve", x.owns(2, 5, 1, 2), 12 + 192);
            due("one or two", x.owns(2, 5, 0, 12), 1 + 32);
            due("another kind", x.owns(2, 4, 0, 12), 192);
            due("another lodger", x.owns(1, 5, 0, 12), 192);
        });
        says("BAD.", () -> {
            OneOfEach x = new OneOfEach();
            int[][] wrong = {{-1, 0, 0, 0}, {3, 0, 0, 0}, {0, -1, 0, 0}, {0, 6, 0, 0}, {0, 0, -1, 0}, {0, 0, -1, -1}, {0, 0, 0, 13}, {0, 0, 13, 13},
                {0, 0, 1, 0}, {0, 0, 12, 11}, {MIN, 0, 0, 0}, {MAX, 0, 0, 0}, {0, MIN, 0, 0}, {0, MAX, 0, 0}, {0, 0, MIN, 0}, {0, 0, 0, MAX}};
            for (int[] w : wrong) {
                due(java.util.Arrays.toString(w), x.owns(w[0], w[1], w[2], w[3]), BAD);
            }
            due("as at first", x.owns(0, 0, 0, 12), 192);
        });
    }

    private void may() {
        says("A SOCK MAY BE that of some LODGERS (1 .. 7): what it was.", () -> {
            OneOfEach x = house("al1,al1:y");
            int was = 7;
            for (int set = 1; set <= 7; set++) {
                due("set " + set, x.may(0, set), was);
                due("whose", x.whose(0), set);
                was = set;
            }
            due("another one", x.may(1, 7), 2);
            due("nobody", x.may(0, 0), BAD);
            due("8", x.may(0, 8), BAD);
        });
        says("BAD.", () -> {
            OneOfEach x = house("al1");
            for (int sock : new int[] {-1, 1, 12, MIN, MAX}) {
                due("sock " + sock, x.may(sock, 1), BAD);
            }
            for (int set : new int[] {0, 8, -1, MIN, MAX}) {
                due("set " + set, x.may(0, set), BAD);
            }
            due("as at first", x.may(0, 7), 7);
        });
    }

    private void bind() {
        says("Two SOCKS are BOUND: 1.", () -> {
            OneOfEach x = house("al1,al1,al1");
            due("bound", x.bind(2, 0), 1);
            due("so many ways", x.ways(), 9);
            x.may(0, 1);
            due("the other one too", x.whose(2), 1);
            due("not the third", x.whose(1), 7);
        });
        says("BAD: also one SOCK;", () -> {
            OneOfEach x = house("al1,al1");
            due("one sock", x.bind(0, 0), BAD);
            due("one sock", x.bind(1, 1), BAD);
            for (int sock : new int[] {-1, 2, 12, MIN, MAX}) {
                due("sock " + sock, x.bind(sock, 0), BAD);
                due("and sock " + sock, x.bind(0, sock), BAD);
                due("twice " + sock, x.bind(sock, sock), BAD);
            }
            x.bind(0, 1);
            due("one that is bound", x.bind(0, 0), BAD);
        });
        says("NOT: they are of unlike KINDS;", () -> {
            OneOfEach x = house("al1,bl1,al1");
            due("a and b", x.bind(0, 1), NOT);
            due("b and a", x.bind(1, 2), NOT);
            due("none bound", x.ways(), 27);
        });
        says("NONE: they are BOUND already (also by others).", () -> {
            OneOfEach x = house("al1,al1,al1,al1,al1,al1");
            due("0 1", x.bind(0, 1), 1);
            due("again", x.bind(0, 1), NONE);
            due("the other way", x.bind(1, 0), NONE);
            due("2 1", x.bind(2, 1), 1);
            due("by another one", x.bind(0, 2), NONE);
            due("3 4", x.bind(3, 4), 1);
            due("5 4", x.bind(5, 4), 1);
            due("by another one", x.bind(5, 3), NONE);
            due("2 5", x.bind(2, 5), 1);
            for (int a = 0; a < 6; a++) {
                for (int b = 0; b < a; b++) {
                    due(a + " " + b + " by others", x.bind(a, b), NONE);
                }
            }
            due("all of one owner", x.ways(), 3);
        });
    }

    private void ways() {
        says("WAYS.", () -> {
            due("no socks", new OneOfEach().ways(), 1);
            due("one", house("al1").ways(), 3);
            due("twelve", Make.twelve().ways(), 531441);
            OneOfEach x = Make.twelve();
            for (int lodger = 0; lodger < 3; lodger++) {
                x.owns(lodger, 0, 4, 4);
            }
            due("four each", x.ways(), 34650);
            x.owns(0, 0, 5, 5);
            due("too many are asked for", x.ways(), 0);
            OneOfEach y = new OneOfEach();
            y.owns(0, 3, 1, 12);
            due("one of a kind that is not there", y.ways(), 0);
        });
    }

    private void whose() {
        says("LODGERS whose a SOCK is in some of WAYS.", () -> {
            OneOfEach x = house("al1,al1:y,bl1:xz");
            due("all", x.whose(0), 7);
            due("one", x.whose(1), 2);
            due("two", x.whose(2), 5);
            x.owns(1, 0, 0, 1);
            due("the other one has all that lodger owns", x.whose(0), 5);
            x.owns(2, 0, 1, 12);
            due("the last one must own one", x.whose(0), 4);
            due("of another kind", x.whose(2), 5);
        });
        says("BAD;", () -> {
            OneOfEach x = house("al1");
            for (int sock : new int[] {-1, 1, 12, MIN, MAX}) {
                due("sock " + sock, x.whose(sock), BAD);
            }
        });
        says("NONE: there is no WAY.", () -> {
            OneOfEach x = house("al1,bl1");
            x.owns(0, 0, 2, 12);
            due("the kind that lacks", x.whose(0), NONE);
            due("the other kind", x.whose(1), NONE);
            x.owns(0, 0, 1, 12);
            due("a way", x.whose(0), 1);
            x.owns(2, 5, 1, 1);
            due("of a kind that is not there", x.whose(0), NONE);
        });
    }

    // ---- Promises 27 to 31

    private void seldom() {
        says("SELDOM: above (0), below (1).", () -> {
            OneOfEach x = house("al1,al1,al1,ar1,ar1,ar1");
            x.monday(7, 0);
            seldomIs("all three left ones", x, 1, 20);
            x.found(0);
            x.monday(8, 0);
            seldomIs("two left ones or three", x, 1, 2);
        });
        says("BAD;", () -> {
            OneOfEach x = house("al1");
            x.monday(1, 0);
            for (int what : new int[] {-1, 2, MIN, MAX}) {
                due("what " + what, x.seldom(what), BAD);
            }
        });
        says("NOT: none is LOST.", () -> {
            seldomIs("no socks", new OneOfEach(), NOT, NOT);
            OneOfEach x = house("al1,al1");
            seldomIs("in the box", x, NOT, NOT);
            x.monday(1, 0);
            seldomIs("lost", x, 1, 1);
            x.found(0);
            seldomIs("found", x, NOT, NOT);
        });
    }

    private void lacks() {
        says("By how many more LEFT than RIGHT ones of a KIND are LOST (0), not LOST (1); both signs;", () -> {
            OneOfEach x = house("al1,al1,ar1,br1,br1,bl1,cl1,cl1");
            due("not lost", x.lacks(0, 1), 1);
            due("not lost, more right ones", x.lacks(1, 1), -1);
            due("none lost", x.lacks(0, 0), 0);
            x.monday(1 + 2 + 8 + 16, 0);
            due("lost", x.lacks(0, 0), 2);
            due("not lost", x.lacks(0, 1), -1);
            due("lost, right ones", x.lacks(1, 0), -2);
            due("not lost", x.lacks(1, 1), 1);
            x.pairUp();
            due("paired ones are not lost", x.lacks(2, 1), 2);
            due("of a kind that is not there", x.lacks(5, 1), 0);
            OneOfEach all = Make.twelve();
            due("twelve", all.lacks(0, 1), 12);
            all.monday(4095, 0);
            due("twelve", all.lacks(0, 0), 12);
            OneOfEach rights = house("ar1,ar1,ar1,ar1,ar1,ar1,ar1,ar1");
            put(rights, "ar1,ar1,ar1,ar1");
            due("twelve the other way, and no refusal", rights.lacks(0, 1), -12);
        });
        says("refused 1000 less. BAD less 1000.", () -> {
            OneOfEach x = house("al1");
            for (int kind : new int[] {-1, 6, MIN, MAX}) {
                due("kind " + kind, x.lacks(kind, 0), -1001);
            }
            for (int what : new int[] {-1, 2, MIN, MAX}) {
                due("what " + what, x.lacks(0, what), -1001);
            }
        });
    }

    private void wish() {
        says("A WISH: what it was.", () -> {
            OneOfEach x = new OneOfEach();
            for (int lodger = 0; lodger < 3; lodger++) {
                due("at first", x.wish(lodger, 63), 0);
                due("all kinds", x.wish(lodger, 1 << lodger), 63);
            }
            for (int lodger = 0; lodger < 3; lodger++) {
                due("each its own", x.wish(lodger, 0), 1 << lodger);
                due("no wish", x.wish(lodger, 0), 0);
            }
        });
        says("BAD.", () -> {
            OneOfEach x = new OneOfEach();
            for (int lodger : new int[] {-1, 3, MIN, MAX}) {
                due("lodger " + lodger, x.wish(lodger, 1), BAD);
            }
            for (int kinds : new int[] {-1, 64, MIN, MAX}) {
                due("kinds " + kinds, x.wish(0, kinds), BAD);
            }
            due("no wish by these", x.buy(), 0);
        });
    }

    private void buy() {
        says("THE BUY.", () -> {
            OneOfEach x = new OneOfEach();
            due("no wishes", x.buy(), 0);
            for (int kind = 0; kind < 6; kind++) {
                x.wish(2, 1 << kind);
                due("one kind", x.buy(), 1 << kind);
            }
            due("twice asked", x.buy(), 32);
            x.wish(1, 16);
            x.wish(0, 8);
            due("one for each", x.buy(), 56);
        });
    }

    private void marks() {
        says("MARKS for m owners that hold t: n (-1), the i-th of them.", () -> {
            OneOfEach x = new OneOfEach();
            due("the last first", x.marks(5, 1, 4), 21);
            marksAre(x, 5, 1, 5, 0, 3, 12, 15, 21);
            marksAre(x, 2, 3, 4, 0, 15);
            marksAre(x, 5, 1, 5, 0, 3, 12, 15, 21);
        });
        says("BAD: also i that is no owner;", () -> {
            OneOfEach x = new OneOfEach();
            for (int m = 1; m <= 5; m++) {
                for (int i : new int[] {-2, m, m + 1, MIN, MAX}) {
                    due("owner " + i + " of " + m, x.marks(m, 0, i), BAD);
                }
            }
            for (int m : new int[] {0, 6, MIN, MAX}) {
                due("m " + m, x.marks(m, 0, -1), BAD);
            }
            for (int t : new int[] {-1, 4, MIN, MAX}) {
                due("t " + t, x.marks(1, t, -1), BAD);
            }
        });
        says("NONE: by no n.", () -> {
            int[][] none = {{5, 2}, {3, 3}, {4, 3}, {5, 3}};
            for (int[] w : none) {
                OneOfEach x = new OneOfEach();
                for (int i = -1; i < w[0]; i++) {
                    due(w[0] + " owners, " + w[1] + " threads lost: " + i, x.marks(w[0], w[1], i), NONE);
                }
            }
        });
    }

    // ---- Promises 32 and 33

    private void image() {
        says("All but SHEETS, THE TAPE is kept as an IMAGE: 1.", () -> {
            OneOfEach x = house("al1");
            Make.onSheet(x, 0, BYTES, 3, 4);
            x.type('a', 1);
            due("kept", x.image(), 1);
            x.type('l', 1);
            x.item(0, BYTES, 0, 12);
            x.sheet(1, INTS, 5);
            x.restore();
            due("the tape goes on", x.type('7', 1), 3);
            due("an item stays", x.worth(0, BYTES, 0, 1, 12, 0, 0), 12);
            due("a sheet stays", x.drop(1), 5);
            x.drop(0);
            x.restore();
            due("a dropped one stays so", x.drop(0), NULL);
            due("the text 'al7'", x.socks(), 1);
            due("low", x.told(1, 2), 7);
            x.restore();
            due("what was read is on no tape", x.socks(), -20);
            due("and no sock", x.count(0), 1);
        });
        says("All but SHEETS, THE TAPE is kept as an IMAGE: 1.", () -> {
            for (int part = 0; part < Twins.HOUSE_PARTS; part++) {
                OneOfEach before = Twins.rich();
                OneOfEach after = Twins.rich();
                after.image();
                Twins.changeAll(after);
                after.restore();
                String seen = Twins.look(after, part).toString();
                String want = Twins.look(before, part).toString();
                holds("part " + part + ": " + seen + " is " + want, seen.equals(want));
                Twins.changeAll(before);
                holds("part " + part + " was changed", !want.equals(Twins.look(before, part).toString()));
            }
        });
    }

    private void restore() {
        says("All is as it was then: 1.", () -> {
            OneOfEach x = house("al1,al1");
            x.image();
            x.fade(0, 3);
            due("restored", x.restore(), 1);
            due("as it was", x.fade(0, 4), 0);
            due("restored again", x.restore(), 1);
            due("as it was", x.fade(0, 5), 0);
            x.image();
            x.fade(0, 6);
            x.restore();
            due("as it was by the later image", x.fade(0, 0), 5);
            x.monday(3, 0);
            x.restore();
            due("none lost", x.count(2), 0);
            due("no monday", x.count(4), 0);
            put(x, "bl1,bl1");
            x.bind(0, 1);
            x.restore();
            due("two socks", x.count(0), 2);
            due("the next one is sock 2", x.sock(0, 0, 0, 0), 2);
            due("not bound", x.bind(0, 1), 1);
        });
        says("NONE: there is none.", () -> {
            OneOfEach x = house("al1");
            x.fade(0, 2);
            due("none yet", x.restore(), NONE);
            due("nothing changed", x.fade(0, 2), 2);
            due("nothing changed", x.count(0), 1);
            x.image();
            due("one", x.restore(), 1);
            due("of another object", new OneOfEach().restore(), NONE);
        });
    }
}
