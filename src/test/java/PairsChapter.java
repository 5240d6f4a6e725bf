/** Section 2 of the terms (pairs, weeks, draws) and promises 13 to 21. */
final class PairsChapter extends Chapter {
    PairsChapter(Book book) {
        super(book);
    }

    @Override
    void tell() {
        at("Terms");
        mostPairs();
        nearestPairs();
        firstRow();
        weeksAndTheirBounds();
        worthOfWeeks();
        dark();
        at("Promise 13");
        pairs();
        at("Promise 14");
        fellow();
        at("Promise 15");
        pairUp();
        at("Promise 16");
        part();
        at("Promise 17");
        judge();
        judgeRefusals();
        at("Promise 18");
        thrown();
        at("Promise 19");
        worth();
        at("Promise 20");
        worst();
        at("Promise 21");
        odds();
    }

    private void row(String call, OneOfEach x, int... fellows) {
        for (int sock = 0; sock < fellows.length; sock++) {
            due(call + ": fellow of " + sock, x.fellow(sock), fellows[sock]);
        }
    }

    // ---- Terms: the pairs

    private void mostPairs() {
        says("THE PAIRS: of SOCKS in THE BOX", () -> {
            OneOfEach x = house("al1,al1,al1,al1,al1");
            due("two pairs", x.pairs(0), 2);
            x.monday(31, 7);
            due("three in the box", x.pairs(0), 1);
            row("two are lost", x, 1, 0, NONE, NONE, NONE);
            x.pairUp();
            due("one in the box", x.pairs(0), 0);
            row("two are paired", x, NONE, NONE, NONE, NONE, NONE);
            x.found(4);
            due("two in the box, one of them found", x.pairs(0), 1);
            row("found", x, NONE, NONE, 4, NONE, 2);
            OneOfEach y = house("al1,al1,al1,al1,al1,al1,al1");
            y.monday(127, 127 - 8 - 32);
            due("two among them are lost", y.pairs(0), 2);
            row("two among them are lost", y, 1, 0, 4, NONE, 2, NONE, NONE);
            OneOfEach z = house("al1,al1,al1,al1,al1,al1,al1,al1");
            put(z, "al1,al1,al1,bl1");
            due("the twelfth is left over", z.pairs(0), 5);
            row("two are left over", z, 1, 0, 3, 2, 5, 4, 7, 6, 9, 8, NONE, NONE);
        });
        says("any pairs that may be FELLOWS (each in one at most):", () -> {
            due("three alike", house("al1,al1,al1").pairs(0), 1);
            due("unlike kinds", house("al1,bl1").pairs(0), 0);
            due("unlike tones", house("al1,al7").pairs(0), 0);
            due("like tones at the edge", house("al1,al6").pairs(0), 1);
            due("that may be like", house("al0-99,al50").pairs(0), 1);
            OneOfEach handed = house("al1,al1,al1,ar1");
            handed.set(1, 1);
            due("left and right", handed.pairs(0), 1);
            OneOfEach parted = house("al1,al1");
            parted.monday(1, 1);
            due("known by a monday", parted.pairs(0), 0);
            due("twelve", Make.twelve().pairs(0), 6);
        });
        says("most pairs,", () -> {
            OneOfEach x = house("al0,al5,al5,al10");
            due("two far ones, not one near one", x.pairs(0), 2);
            due("sum", x.pairs(1), 20);
            row("two", x, 1, 0, 3, 2);
            // In each kind the middle two are as near as can be, and the outer ones far from them.
            OneOfEach far = house("al0,al20-99,al20-99,al99,bl0,bl20-99");
            put(far, "bl20-99,bl99,cl0,cl20-99,cl20-99,cl99");
            far.set(0, 20);
            due("six far ones, not three near ones", far.pairs(0), 6);
            due("sum of six", far.pairs(1), 3 * (119 + 79));
        });
    }

    private void nearestPairs() {
        says("of these the least sum of distances", () -> {
            OneOfEach x = house("al10,al14,al15,al11");
            due("sum", x.pairs(1), 4);
            row("nearest", x, 3, 2, 1, 0);
            OneOfEach y = house("al10,al13,al14,al15,al11");
            due("sum", y.pairs(1), 4);
            row("the last three have two near ones", y, 4, 2, 1, NONE, 0);
            OneOfEach z = house("al10,al12,al13");
            due("one pair of three", z.pairs(1), 2);
            row("not the first two", z, NONE, 2, 1);
        });
        says("(how far LOW and HIGH of the one, added, are from LOW and HIGH of the other one, added),", () -> {
            due("none", house("al0-10,al5").pairs(1), 0);
            due("one", house("al0-11,al5").pairs(1), 1);
            due("the other way", house("al5,al0-11").pairs(1), 1);
            due("both ends", house("al4-6,al7-9").pairs(1), 6);
            OneOfEach far = house("al0,al20-99");
            far.set(0, 20);
            due("as far as can be", far.pairs(1), 119);
        });
    }

    private void firstRow() {
        says("of like ones the first as a row of SOCKS", () -> {
            row("five alike", house("al5,al5,al5,al5,al5"), 1, 0, 3, 2, NONE);
            row("twelve alike", Make.twelve(), 1, 0, 3, 2, 5, 4, 7, 6, 9, 8, 11, 10);
            row("two as near", house("al10,al8,al12"), 1, 0, NONE);
        });
        says("(for each its fellow, none last;", () -> {
            OneOfEach x = house("al5,al5,ar5");
            x.set(1, 1);
            row("the last one's fellow is the first", x, 2, NONE, 0);
            OneOfEach y = house("al5,ar5,ar5");
            y.set(1, 1);
            row("the first one's fellow is the second", y, 1, 0, NONE);
        });
        says("SOCK 0 counts most).", () -> {
            OneOfEach x = house("al5,al5,ar5,ar5");
            x.set(1, 1);
            row("2, though 1 has 3 then", x, 2, 3, 0, 1);
            OneOfEach y = house("al5,al5,al5,ar5,ar5");
            y.set(1, 1);
            row("the first two", y, 3, 4, NONE, 0, 1);
        });
    }

    // ---- Terms: weeks

    private static OneOfEach chances(int... p) {
        return Make.onSheet(new OneOfEach(), 0, INTS, p);
    }

    private void weeks(OneOfEach x, int n, int v, int c, int thrown, long above, long below) {
        String call = n + " weeks, v " + v + ", c " + c;
        due(call + ": thrown", x.thrown(0, INTS, 0, n, v, c), thrown);
        due(call + ": above", x.worth(0, INTS, 0, n, v, c, 0), above);
        due(call + ": below", x.worth(0, INTS, 0, n, v, c, 1), below);
    }

    private void weeksAreBad(OneOfEach x, int n, int v, int c) {
        weeks(x, n, v, c, BAD, BAD, BAD);
    }

    private void weeksAndTheirBounds() {
        says("A SINGLE is kept by n WEEKS (1 .. 8; 0, 1 and so on):", () -> {
            OneOfEach x = chances(12, 12, 12, 12, 12, 12, 12, 12, 12, 12);
            weeks(x, 1, 5, 0, NONE, 5, 1);
            weeks(x, 8, 5, 0, NONE, 5, 1);
            for (int n : new int[] {0, 9, -1, 10, MIN, MAX}) {
                weeksAreBad(x, n, 5, 0);
            }
            OneOfEach y = chances(0, 0, 0, 0, 0, 0, 0, 12);
            weeks(y, 8, 5, 0, NONE, 5, 1);
            weeks(y, 7, 5, 0, 0, 0, 1);
            for (int last = 0; last < 8; last++) {
                int[] p = {1, 1, 1, 1, 1, 1, 1, 1};
                p[last] = 0;
                due("thrown in week " + last, chances(p).thrown(0, INTS, 0, last + 1, 999, 1), last);
            }
        });
        says("in each its fellow comes with ODDS p by 12 (0 .. 12; its own),", () -> {
            weeks(chances(0), 1, 999, 0, 0, 0, 1);
            weeks(chances(12), 1, 999, 0, NONE, 999, 1);
            weeks(chances(-1), 1, 999, 0, NOT, NOT, NOT);
            weeks(chances(13), 1, 999, 0, NOT, NOT, NOT);
            weeks(chances(3, 4), 2, 12, 0, NONE, 6, 1);
            weeks(chances(4, 3), 2, 12, 0, NONE, 6, 1);
            weeks(chances(3, 12), 2, 12, 1, NONE, 41, 4);
        });
        says("a pair is worth v (0 .. 999),", () -> {
            OneOfEach x = chances(12);
            weeks(x, 1, 0, 0, 0, 0, 1);
            weeks(x, 1, 1, 0, NONE, 1, 1);
            weeks(x, 1, 999, 0, NONE, 999, 1);
            for (int v : new int[] {-1, 1000, MIN, MAX}) {
                weeksAreBad(x, 1, v, 0);
            }
        });
        says("to keep it for a week costs c (0 .. 99).", () -> {
            OneOfEach x = chances(12);
            weeks(x, 1, 100, 0, NONE, 100, 1);
            weeks(x, 1, 100, 99, NONE, 1, 1);
            for (int c : new int[] {-1, 100, MIN, MAX}) {
                weeksAreBad(x, 1, 100, c);
            }
        });
    }

    private void worthOfWeeks() {
        says("From the last week back: WORTH of a week is that of keeping it, if this is above 0, else 0 (it is thrown):", () -> {
            weeks(chances(1), 1, 13, 1, NONE, 1, 12);
            weeks(chances(1), 1, 12, 1, 0, 0, 1);
            weeks(chances(1), 1, 11, 1, 0, 0, 1);
            weeks(chances(6, 0), 2, 12, 1, 1, 5, 1);
            weeks(chances(0, 12), 2, 10, 5, 0, 0, 1);
            weeks(chances(0, 12), 2, 11, 5, NONE, 1, 1);
        });
        says("less c, more v times p by 12, more WORTH of the next one (behind the last: 0) times what lacks of p to 12 by 12.", () -> {
            weeks(chances(6, 6), 2, 10, 1, NONE, 6, 1);
            weeks(chances(6, 6), 1, 10, 1, NONE, 4, 1);
            weeks(chances(12, 12), 2, 10, 1, NONE, 9, 1);
            weeks(chances(0, 0, 12), 3, 10, 1, NONE, 7, 1);
            weeks(chances(1, 1), 2, 120, 9, NONE, 23, 12);
            // By eleven twelfths nothing comes, eight times over.
            weeks(chances(1, 1, 1, 1, 1, 1, 1, 1), 8, 999, 0, NONE, 37 * (429981696L - 214358881L), 429981696L / 27);
        });
        says("THROWN is the first week whose WORTH is 0 (none: never).", () -> {
            weeks(chances(12, 0, 12, 0), 4, 10, 9, 1, 1, 1);
            weeks(chances(0, 0, 12, 0), 4, 10, 9, 0, 0, 1);
            weeks(chances(12, 12, 12, 0), 4, 10, 9, 3, 1, 1);
            weeks(chances(12, 12, 12, 12), 4, 10, 9, NONE, 1, 1);
        });
    }

    // ---- Terms: draws

    private void dark() {
        says("IN THE DARK SOCKS are drawn from THE BOX, none put back;", () -> {
            OneOfEach x = house("al1,al9,al17,bl1");
            oddsAre(x, 2, 1, 2);
            x.monday(4, 0);
            oddsAre(x, 2, 1, 3);
            oddsAre(x, 4, NOT, NOT);
            due("lost ones are not drawn", x.worst(), 3);
            OneOfEach y = house("al1,al1");
            oddsAre(y, 2, 1, 1);
            oddsAre(y, 3, NOT, NOT);
            y.pairUp();
            oddsAre(y, 1, NOT, NOT);
            due("paired ones are not drawn", y.worst(), NONE);
        });
        says("a pair is two of one KIND (HANDED 1: a LEFT and a RIGHT one).", () -> {
            OneOfEach x = house("al0,al99");
            oddsAre(x, 2, 1, 1);
            x.monday(1, 1);
            oddsAre(x, 2, 1, 1);
            x.set(1, 1);
            oddsAre(x, 2, 0, 1);
            due("two left ones", x.worst(), NONE);
            OneOfEach y = house("al1,ar9");
            y.set(1, 1);
            oddsAre(y, 2, 1, 1);
            OneOfEach z = house("al1,br1");
            oddsAre(z, 2, 0, 1);
            z.set(1, 1);
            oddsAre(z, 2, 0, 1);
            OneOfEach twelve = Make.twelve();
            twelve.set(1, 1);
            oddsAre(twelve, 12, 0, 1);
            due("twelve left ones", twelve.worst(), NONE);
            twelve.set(1, 0);
            oddsAre(twelve, 12, 1, 1);
            due("twelve, not by hands", twelve.worst(), 2);
            OneOfEach rights = house("ar1,ar1,ar1");
            rights.set(1, 1);
            oddsAre(rights, 3, 0, 1);
        });
        says("AT WORST: the fewest draws that surely have a pair.", () -> {
            due("two alike", house("al1,al9").worst(), 2);
            due("one of each", house("al1,bl1,cl1,dl1,el1,fl1").worst(), NONE);
            due("one of each and one more", house("al1,bl1,cl1,dl1,el1,fl1,fl9").worst(), 7);
            due("twelve alike", Make.twelve().worst(), 2);
            OneOfEach x = house("al1,al1,al1,ar1,ar1,bl1");
            due("not by hands", x.worst(), 3);
            x.set(1, 1);
            due("three left ones and the other kind", x.worst(), 5);
            OneOfEach y = house("al1,al1,al1,al1,al1,al1,al1,ar1");
            put(y, "al1,al1,al1,al1");
            y.set(1, 1);
            due("all twelve", y.worst(), 12);
        });
        says("ODDS of d draws (0 .. 12): that a pair is among them, all draws alike likely, in lowest terms.", () -> {
            OneOfEach x = Make.twelve();
            oddsAre(x, 0, 0, 1);
            oddsAre(x, 1, 0, 1);
            oddsAre(x, 2, 1, 1);
            oddsAre(x, 12, 1, 1);
            oddsAre(x, -1, BAD, BAD);
            oddsAre(x, 13, BAD, BAD);
            OneOfEach y = house("al1,al1,bl1,bl1,cl1,cl1");
            oddsAre(y, 2, 1, 5);
            oddsAre(y, 3, 3, 5);
            oddsAre(y, 4, 1, 1);
        });
    }

    private void oddsAre(OneOfEach x, int d, int above, int below) {
        due("above, " + d + " draws", x.odds(d, 0), above);
        due("below, " + d + " draws", x.odds(d, 1), below);
    }

    // ---- Promises 13 to 16

    private void pairs() {
        says("THE PAIRS: how many (0), the sum of distances (1).", () -> {
            OneOfEach x = house("al1,al3,bl7,bl8");
            due("how many", x.pairs(0), 2);
            due("the sum", x.pairs(1), 6);
            due("none is paired by asking", x.count(3), 0);
            due("no socks", new OneOfEach().pairs(0), 0);
            due("no socks", new OneOfEach().pairs(1), 0);
            due("one sock", house("al9").pairs(0), 0);
        });
        says("BAD.", () -> {
            for (int what : new int[] {-1, 2, MIN, MAX}) {
                due("what " + what, house("al1,al1").pairs(what), BAD);
            }
        });
    }

    private void fellow() {
        says("The fellow of a SOCK by THE PAIRS.", () -> {
            OneOfEach x = house("al1,bl1,bl1,al1");
            row("two pairs", x, 3, 2, 1, 0);
        });
        says("BAD;", () -> {
            OneOfEach x = house("al1,al1");
            for (int sock : new int[] {-1, 2, 12, MIN, MAX}) {
                due("sock " + sock, x.fellow(sock), BAD);
            }
        });
        says("NONE.", () -> {
            OneOfEach x = house("al1,bl1,bl1,bl1,cl1,cl1");
            due("no fellow", x.fellow(0), NONE);
            due("left over", x.fellow(3), NONE);
            x.pairUp();
            due("paired, and not in the box", x.fellow(4), NONE);
            x.monday(1, 0);
            due("lost", x.fellow(0), NONE);
        });
    }

    private void pairUp() {
        says("THE PAIRS are PAIRED: how many.", () -> {
            OneOfEach x = house("al1,bl1,bl1,al1,cl1");
            due("two", x.pairUp(), 2);
            int[] other = {3, 2, 1, 0, NONE};
            for (int sock = 0; sock < 5; sock++) {
                due("the other one of " + sock, x.told(sock, 5), other[sock]);
                due("where it is", x.told(sock, 4), sock == 4 ? 0 : 2);
            }
            due("none is left", x.pairUp(), 0);
            due("those stay paired", x.count(3), 4);
            due("six", Make.twelve().pairUp(), 6);
            due("no socks", new OneOfEach().pairUp(), 0);
            OneOfEach y = house("al1,al1");
            y.pairUp();
            put(y, "al1,al1");
            due("later ones with one another", y.pairUp(), 1);
            due("the first two as before", y.told(0, 5), 1);
            due("the later two", y.told(2, 5), 3);
        });
    }

    private void part() {
        says("A SOCK and its other one are in THE BOX again: which that was.", () -> {
            OneOfEach x = house("al1,bl1,bl1,al1");
            x.pairUp();
            due("the other one of 0", x.part(0), 3);
            due("in the box", x.told(0, 4), 0);
            due("in the box", x.told(3, 4), 0);
            due("no other one", x.told(3, 5), NONE);
            due("the others stay", x.told(1, 5), 2);
            due("told by the later one", x.part(2), 1);
            due("all in the box", x.count(1), 4);
        });
        says("BAD;", () -> {
            OneOfEach x = house("al1,al1");
            x.pairUp();
            for (int sock : new int[] {-1, 2, 12, MIN, MAX}) {
                due("sock " + sock, x.part(sock), BAD);
            }
        });
        says("NOT: it is not PAIRED.", () -> {
            OneOfEach x = house("al1,al1,bl1");
            due("in the box", x.part(0), NOT);
            x.pairUp();
            due("left over", x.part(2), NOT);
            x.part(1);
            due("parted already", x.part(0), NOT);
            due("parted already", x.part(1), NOT);
            x.monday(1, 0);
            due("lost", x.part(0), NOT);
        });
    }

    // ---- Promise 17

    private static OneOfEach told(String text, int... fellows) {
        return Make.onSheet(house(text), 0, INTS, fellows);
    }

    private void judge() {
        says("Told PAIRS: for each SOCK its fellow (-1: none), items of a SHEET, taken as a row of a LANE, from one on:", () -> {
            int[] items = {7, 7, 7, 7, 1, 0, -1};
            for (int sheet = 0; sheet < 4; sheet++) {
                for (int lane = 0; lane < 3; lane++) {
                    OneOfEach x = Make.onSheet(house("al1,al1,al1"), sheet, lane, items);
                    due("from the last place that will do", x.judge(sheet, lane, 4), NONE);
                    due("from one ahead of it", x.judge(sheet, lane, 3), 0);
                    due("from the first", x.judge(sheet, lane, 0), 0);
                }
            }
            due("none for all", told("al1,al1", -1, -1).judge(0, INTS, 0), NONE);
            due("twelve", Make.onSheet(Make.twelve(), 0, BYTES, 11, 10, 9, 8, 7, 6, 5, 4, 3, 2, 1, 0).judge(0, BYTES, 0), NONE);
        });
        says("the first SOCK whose fellow is no SOCK in THE BOX,", () -> {
            for (int no : new int[] {2, 11, 12, 13, 99, -2, MIN, MAX}) {
                due("sock " + no, told("al1,al1", -1, no).judge(0, INTS, 0), 1);
                due("the first of two", told("al1,al1", no, no).judge(0, INTS, 0), 0);
            }
            OneOfEach x = told("al1,al1,al1", -1, 2, 1);
            due("in the box", x.judge(0, INTS, 0), NONE);
            x.monday(7, 3);
            due("lost", x.judge(0, INTS, 0), 1);
            OneOfEach y = told("al20,al1,al1", 1, 0, -1);
            y.pairUp();
            y.set(0, 20);
            due("may be, but is paired", y.judge(0, INTS, 0), 0);
        });
        says("has not it as its own,", () -> {
            due("it has none", told("al1,al1,al1", -1, 2, -1).judge(0, INTS, 0), 1);
            due("it has another one", told("al1,al1,al1", 1, 2, 1).judge(0, INTS, 0), 0);
            due("round about", told("al1,al1,al1", 1, 2, 0).judge(0, INTS, 0), 0);
        });
        says("or may not be one", () -> {
            due("itself", told("al1,al1", -1, 1).judge(0, INTS, 0), 1);
            due("unlike kinds", told("al1,bl1", 1, 0).judge(0, INTS, 0), 0);
            due("unlike tones", told("cl1,al1,al7", -1, 2, 1).judge(0, INTS, 0), 1);
            OneOfEach x = told("al1,al1", 1, 0);
            due("both left", x.judge(0, INTS, 0), NONE);
            x.set(1, 1);
            due("both left, handed", x.judge(0, INTS, 0), 0);
            x.set(1, 0);
            x.monday(2, 2);
            due("known by a monday", x.judge(0, INTS, 0), 0);
        });
        says("(also of a SOCK not in THE BOX, if one is told).", () -> {
            OneOfEach x = told("al1,al1,al1,al1", -1, -1, 3, 2);
            due("all in the box", x.judge(0, INTS, 0), NONE);
            x.monday(15, 11);
            due("of a lost one", x.judge(0, INTS, 0), 2);
            x.item(0, INTS, 2, -1);
            due("none told of the lost one, but of its fellow", x.judge(0, INTS, 0), 3);
            x.item(0, INTS, 3, -1);
            due("none told of a lost one", x.judge(0, INTS, 0), NONE);
            x.pairUp();
            due("none told of paired ones", x.judge(0, INTS, 0), NONE);
            x.item(0, INTS, 0, 1);
            x.item(0, INTS, 1, 0);
            due("paired ones told", x.judge(0, INTS, 0), 0);
        });
        says("NONE: all may be.", () -> {
            due("all", told("al1,al1,bl1,bl1,cl1", 1, 0, 3, 2, -1).judge(0, INTS, 0), NONE);
            due("as near as may be, not the nearest", told("al1,al6,al1,al6", 1, 0, 3, 2).judge(0, INTS, 0), NONE);
            due("no socks, no items", Make.onSheet(new OneOfEach(), 0, INTS).judge(0, INTS, 0), NONE);
            due("no socks", Make.onSheet(new OneOfEach(), 0, INTS, 5, 5).judge(0, INTS, 1), NONE);
        });
    }

    private void judgeRefusals() {
        says("BAD;", () -> {
            OneOfEach x = told("al1", -1);
            for (int sheet : new int[] {-1, 4, MIN, MAX}) {
                due("sheet " + sheet, x.judge(sheet, INTS, 0), BAD);
            }
            for (int lane : new int[] {-1, 3, MIN, MAX}) {
                due("lane " + lane, x.judge(0, lane, 0), BAD);
            }
        });
        says("NULL;", () -> {
            OneOfEach x = told("al1", -1);
            for (int sheet = 1; sheet < 4; sheet++) {
                for (int lane = 0; lane < 3; lane++) {
                    due("sheet " + sheet, x.judge(sheet, lane, 0), NULL);
                }
            }
            x.drop(0);
            due("dropped", x.judge(0, INTS, 0), NULL);
        });
        says("CAST;", () -> {
            for (int lane = 0; lane < 3; lane++) {
                OneOfEach x = Make.onSheet(house("al1"), 0, lane, -1);
                for (int as = 0; as < 3; as++) {
                    due("lane " + lane + " as " + as, x.judge(0, as, 0), as == lane ? NONE : CAST);
                }
            }
        });
        says("INDEX;", () -> {
            OneOfEach x = told("al1,al1", -1, -1, -1, -1);
            due("the last that will do", x.judge(0, INTS, 2), NONE);
            for (int from : new int[] {3, 4, 5, -1, 15, 16, MIN, MAX, MAX - 1, MAX - 2}) {
                due("from " + from, x.judge(0, INTS, from), INDEX);
            }
            due("fewer items than socks", told("al1,al1", -1).judge(0, INTS, 0), INDEX);
            due("also behind one that may not be", told("al1,al1", 0).judge(0, INTS, 0), INDEX);
            due("no items", told("al1").judge(0, INTS, 0), INDEX);
        });
    }

    // ---- Promises 18 and 19

    private void thrown() {
        says("A SINGLE: ODDS of n WEEKS, items of a SHEET, taken as a row of a LANE, from one on: THROWN.", () -> {
            for (int sheet = 0; sheet < 4; sheet++) {
                for (int lane = 0; lane < 3; lane++) {
                    OneOfEach x = Make.onSheet(new OneOfEach(), sheet, lane, 0, 12, 12, 0);
                    due("from 0", x.thrown(sheet, lane, 0, 4, 5, 3), 0);
                    due("from 1", x.thrown(sheet, lane, 1, 3, 5, 3), 2);
                    due("from 1, two weeks", x.thrown(sheet, lane, 1, 2, 5, 3), NONE);
                    due("from the last", x.thrown(sheet, lane, 3, 1, 5, 3), 0);
                }
            }
        });
        says("BAD;", () -> {
            OneOfEach x = chances(12);
            int[][] wrong = {{-1, 2, 0, 1, 1, 1}, {4, 2, 0, 1, 1, 1}, {0, -1, 0, 1, 1, 1}, {0, 3, 0, 1, 1, 1}, {0, 2, 0, 0, 1, 1},
                {0, 2, 0, 9, 1, 1}, {0, 2, 0, 1, -1, 1}, {0, 2, 0, 1, 1000, 1}, {0, 2, 0, 1, 1, -1}, {0, 2, 0, 1, 1, 100}};
            for (int[] w : wrong) {
                due(java.util.Arrays.toString(w), x.thrown(w[0], w[1], w[2], w[3], w[4], w[5]), BAD);
            }
        });
        says("NULL;", () -> {
            for (int lane = 0; lane < 3; lane++) {
                due("nothing", new OneOfEach().thrown(3, lane, 0, 1, 1, 1), NULL);
            }
        });
        says("CAST;", () -> {
            for (int lane = 0; lane < 3; lane++) {
                for (int as = 0; as < 3; as++) {
                    OneOfEach x = Make.onSheet(new OneOfEach(), 0, lane, 12);
                    due("lane " + lane + " as " + as, x.thrown(0, as, 0, 1, 5, 1), as == lane ? NONE : CAST);
                }
            }
        });
        says("INDEX;", () -> {
            OneOfEach x = Make.onSheet(new OneOfEach(), 0, BYTES, 12, 12, 12, 12, 12, 12, 12, 12, 12, 12, 12, 12, 12, 12, 12, 12);
            for (int n = 1; n <= 8; n++) {
                due("the last that will do", x.thrown(0, BYTES, 16 - n, n, 5, 1), NONE);
                for (int from : new int[] {17 - n, 16, 17, -1, -n, MIN, MAX, MAX - n, MAX - n + 1}) {
                    due("from " + from + ", " + n + " weeks", x.thrown(0, BYTES, from, n, 5, 1), INDEX);
                }
            }
            due("no items", chances().thrown(0, INTS, 0, 1, 5, 1), INDEX);
        });
        says("NOT: one is not 0 .. 12;", () -> {
            for (int wrong : new int[] {-1, 13, MIN, MAX, -12, 255, 256}) {
                due("the only one", chances(wrong).thrown(0, INTS, 0, 1, 5, 1), NOT);
                due("the first", chances(wrong, 12).thrown(0, INTS, 0, 2, 5, 1), NOT);
                due("the last, behind a week that is thrown", chances(0, 12, wrong).thrown(0, INTS, 0, 3, 5, 5), NOT);
                due("ahead of those told", chances(wrong, 12).thrown(0, INTS, 1, 1, 5, 1), NONE);
                due("behind those told", chances(12, wrong).thrown(0, INTS, 0, 1, 5, 1), NONE);
            }
        });
        says("NONE: never.", () -> {
            due("never", chances(12, 12).thrown(0, INTS, 0, 2, 2, 1), NONE);
            due("in the last", chances(12, 0).thrown(0, INTS, 0, 2, 2, 1), 1);
        });
    }

    private void worth() {
        says("WORTH of the first of these WEEKS, in lowest terms: above (0), below (1).", () -> {
            OneOfEach x = chances(0, 6, 8, 9, 12);
            due("six twelfths of 3", x.worth(0, INTS, 1, 1, 3, 0, 0), 3);
            due("six twelfths of 3", x.worth(0, INTS, 1, 1, 3, 0, 1), 2);
            due("eight twelfths of 1", x.worth(0, INTS, 2, 1, 1, 0, 0), 2);
            due("eight twelfths of 1", x.worth(0, INTS, 2, 1, 1, 0, 1), 3);
            due("whole", x.worth(0, INTS, 4, 1, 7, 0, 1), 1);
            due("nothing by one", x.worth(0, INTS, 0, 1, 7, 0, 0), 0);
            due("nothing by one", x.worth(0, INTS, 0, 1, 7, 0, 1), 1);
            due("thrown", x.worth(0, INTS, 1, 1, 3, 99, 0), 0);
            due("thrown", x.worth(0, INTS, 1, 1, 3, 99, 1), 1);
            // 5, 7 and 997 share nothing with 12: no part falls away in eight weeks.
            OneOfEach y = chances(5, 5, 5, 5, 5, 5, 5, 5);
            due("beyond an int", y.worth(0, INTS, 0, 8, 997, 0, 0), 997 * (429981696L - 5764801L));
            due("below", y.worth(0, INTS, 0, 8, 997, 0, 1), 429981696L);
        });
        says("BAD;", () -> {
            OneOfEach x = chances(12);
            int[][] wrong = {{-1, 2, 0, 1, 1, 1, 0}, {4, 2, 0, 1, 1, 1, 0}, {0, -1, 0, 1, 1, 1, 0}, {0, 3, 0, 1, 1, 1, 0}, {0, 2, 0, 0, 1, 1, 0},
                {0, 2, 0, 9, 1, 1, 0}, {0, 2, 0, 1, -1, 1, 0}, {0, 2, 0, 1, 1000, 1, 0}, {0, 2, 0, 1, 1, -1, 0}, {0, 2, 0, 1, 1, 100, 0},
                {0, 2, 0, 1, 1, 1, -1}, {0, 2, 0, 1, 1, 1, 2}, {0, 2, 0, 1, 1, 1, MIN}, {0, 2, 0, 1, 1, 1, MAX}};
            for (int[] w : wrong) {
                due(java.util.Arrays.toString(w), x.worth(w[0], w[1], w[2], w[3], w[4], w[5], w[6]), BAD);
            }
        });
        says("NULL;", () -> {
            due("above", new OneOfEach().worth(0, INTS, 0, 1, 1, 1, 0), NULL);
            due("below", new OneOfEach().worth(3, BYTES, 0, 1, 1, 1, 1), NULL);
        });
        says("CAST;", () -> {
            due("above", chances(12).worth(0, BYTES, 0, 1, 1, 1, 0), CAST);
            due("below", chances(12).worth(0, SHORTS, 0, 1, 1, 1, 1), CAST);
        });
        says("INDEX;", () -> {
            for (int what = 0; what < 2; what++) {
                due("one behind", chances(12, 12).worth(0, INTS, 1, 2, 1, 1, what), INDEX);
                due("one ahead", chances(12, 12).worth(0, INTS, -1, 2, 1, 1, what), INDEX);
                due("far", chances(12, 12).worth(0, INTS, MAX, 2, 1, 1, what), INDEX);
                due("far", chances(12, 12).worth(0, INTS, MIN, 2, 1, 1, what), INDEX);
                due("the last that will do", chances(12, 12).worth(0, INTS, 1, 1, 2, 1, what), 1);
            }
        });
        says("NOT.", () -> {
            for (int what = 0; what < 2; what++) {
                due("13", chances(12, 13).worth(0, INTS, 0, 2, 1, 1, what), NOT);
                due("-1", chances(-1, 12).worth(0, INTS, 0, 2, 1, 1, what), NOT);
            }
        });
    }

    // ---- Promises 20 and 21

    private void worst() {
        says("AT WORST.", () -> {
            due("two", house("al1,al1").worst(), 2);
            due("three", house("al1,al1,bl1").worst(), 3);
            OneOfEach x = house("al1,al1,bl1,cl1");
            due("four", x.worst(), 4);
            x.monday(8, 0);
            due("one kind is lost", x.worst(), 3);
        });
        says("NONE: not by all.", () -> {
            due("no socks", new OneOfEach().worst(), NONE);
            due("one sock", house("al1").worst(), NONE);
            due("one of each", house("al1,br1,cl1").worst(), NONE);
            OneOfEach x = house("al1,al1,al1,br1,br1");
            x.set(1, 1);
            due("one hand of each", x.worst(), NONE);
            OneOfEach y = house("al1,al1");
            y.monday(2, 0);
            due("the other one is lost", y.worst(), NONE);
        });
    }

    private void odds() {
        says("ODDS of d draws: above (0), below (1).", () -> {
            OneOfEach x = house("al1,al1,al1,bl1");
            oddsAre(x, 0, 0, 1);
            oddsAre(x, 1, 0, 1);
            oddsAre(x, 2, 1, 2);
            oddsAre(x, 3, 1, 1);
            oddsAre(x, 4, 1, 1);
            x.set(1, 1);
            oddsAre(x, 4, 0, 1);
        });
        says("BAD;", () -> {
            OneOfEach x = Make.twelve();
            for (int d : new int[] {-1, 13, MIN, MAX}) {
                oddsAre(x, d, BAD, BAD);
            }
            for (int what : new int[] {-1, 2, MIN, MAX}) {
                due("what " + what, x.odds(2, what), BAD);
            }
        });
        says("NOT: THE BOX has not so many.", () -> {
            OneOfEach x = house("al1,al1,bl1,cl1");
            oddsAre(x, 4, 1, 1);
            oddsAre(x, 5, NOT, NOT);
            oddsAre(x, 12, NOT, NOT);
            x.monday(8, 0);
            oddsAre(x, 3, 1, 1);
            oddsAre(x, 4, NOT, NOT);
            x.pairUp();
            oddsAre(x, 1, 0, 1);
            oddsAre(x, 2, NOT, NOT);
            oddsAre(new OneOfEach(), 1, NOT, NOT);
        });
    }
}
