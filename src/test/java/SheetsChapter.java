/** Section 4 of the terms (sheets) and promises 34 to 36. */
final class SheetsChapter extends Chapter {
    SheetsChapter(Book book) {
        super(book);
    }

    @Override
    void tell() {
        at("Terms");
        sheets();
        at("Promise 34");
        sheet();
        at("Promise 35");
        drop();
        at("Promise 36");
        item();
        itemRefusals();
    }

    private void sheets() {
        says("sheets 0 .. 3: nothing (at first),", () -> {
            OneOfEach x = new OneOfEach();
            for (int sheet = 0; sheet < 4; sheet++) {
                due("drop of " + sheet, x.drop(sheet), NULL);
                for (int lane = 0; lane < 3; lane++) {
                    due("item of " + sheet, x.item(sheet, lane, 0, 0), NULL);
                }
                due("sheet " + sheet, x.sheet(sheet, 0, 1 + sheet), 1 + sheet);
            }
            for (int sheet = 0; sheet < 4; sheet++) {
                due("each its own", x.drop(sheet), 1 + sheet);
                due("nothing again", x.drop(sheet), NULL);
            }
            due("no sheet -1", x.sheet(-1, 0, 1), BAD);
            due("no sheet 4", x.sheet(4, 0, 1), BAD);
        });
        says("or a row of a LANE: 0 bytes, 1 shorts, 2 ints,", () -> {
            int[] top = {127, 32767, MAX};
            for (int lane = 0; lane < 3; lane++) {
                OneOfEach x = Make.onSheet(house("al1"), 0, lane, -1);
                due("-1", x.judge(0, lane, 0), NONE);
                x.item(0, lane, 0, -1 & (2 * top[lane] + 1));
                due("all bits of the lane are -1", x.judge(0, lane, 0), NONE);
                x.item(0, lane, 0, top[lane]);
                due("the highest one is none", x.judge(0, lane, 0), 0);
                x.item(0, lane, 0, -top[lane] - 1);
                due("the lowest one is none", x.judge(0, lane, 0), 0);
            }
            due("no lane -1", new OneOfEach().sheet(0, -1, 1), BAD);
            due("no lane 3", new OneOfEach().sheet(0, 3, 1), BAD);
        });
        says("of 0 to 16 items.", () -> {
            OneOfEach x = new OneOfEach();
            for (int lane = 0; lane < 3; lane++) {
                for (int n = 0; n <= 16; n++) {
                    due("lane " + lane, x.sheet(lane, lane, n), n);
                    due("behind the last", x.item(lane, lane, n, 1), INDEX);
                    due("the last", x.item(lane, lane, n - 1, 1), n == 0 ? INDEX : 1);
                }
                due("17", x.sheet(lane, lane, 17), BAD);
                due("-1", x.sheet(lane, lane, -1), SIZE);
                due("as many as there were", x.drop(lane), 16);
            }
        });
    }

    private void sheet() {
        says("A SHEET holds a new row of a LANE: n.", () -> {
            OneOfEach x = Make.onSheet(new OneOfEach(), 1, BYTES, 12, 12, 12);
            due("another lane and length", x.sheet(1, SHORTS, 5), 5);
            due("no more bytes", x.item(1, BYTES, 0, 1), CAST);
            for (int i = 0; i < 5; i++) {
                due("a new row has zeros", x.worth(1, SHORTS, i, 1, 12, 0, 0), 0);
            }
            x.item(1, SHORTS, 4, 9);
            due("no items", x.sheet(1, SHORTS, 0), 0);
            due("a row all the same", x.item(1, SHORTS, 0, 1), INDEX);
            x.sheet(1, SHORTS, 5);
            due("new again", x.worth(1, SHORTS, 4, 1, 12, 0, 0), 0);
            due("another sheet", x.drop(2), NULL);
        });
        says("BAD: also n above 16;", () -> {
            OneOfEach x = Make.onSheet(new OneOfEach(), 0, BYTES, 12);
            for (int n : new int[] {17, 18, 32, MAX}) {
                due("n " + n, x.sheet(0, INTS, n), BAD);
            }
            for (int sheet : new int[] {-1, 4, MIN, MAX}) {
                due("sheet " + sheet, x.sheet(sheet, INTS, 1), BAD);
            }
            for (int lane : new int[] {-1, 3, MIN, MAX}) {
                due("lane " + lane, x.sheet(0, lane, 1), BAD);
            }
            due("as it was", x.worth(0, BYTES, 0, 1, 12, 0, 0), 12);
        });
        says("SIZE: n below 0.", () -> {
            OneOfEach x = Make.onSheet(new OneOfEach(), 0, BYTES, 12);
            for (int n : new int[] {-1, -2, -17, MIN}) {
                due("n " + n, x.sheet(0, INTS, n), SIZE);
            }
            due("0 is none below 0", x.sheet(1, INTS, 0), 0);
            due("as it was", x.worth(0, BYTES, 0, 1, 12, 0, 0), 12);
        });
    }

    private void drop() {
        says("A SHEET holds nothing: how many items it had.", () -> {
            OneOfEach x = new OneOfEach();
            x.sheet(0, INTS, 16);
            x.sheet(1, BYTES, 0);
            x.sheet(2, SHORTS, 7);
            due("16", x.drop(0), 16);
            due("none", x.drop(1), 0);
            due("nothing then", x.item(0, INTS, 0, 1), NULL);
            due("nothing then, though it had no items", x.item(1, BYTES, 0, 1), NULL);
            due("the other one stays", x.item(2, SHORTS, 6, 1), 1);
            x.sheet(2, SHORTS, 3);
            due("of the new row", x.drop(2), 3);
        });
        says("BAD;", () -> {
            OneOfEach x = new OneOfEach();
            for (int sheet : new int[] {-1, 4, MIN, MAX}) {
                due("sheet " + sheet, x.drop(sheet), BAD);
            }
        });
        says("NULL.", () -> {
            OneOfEach x = new OneOfEach();
            for (int sheet = 0; sheet < 4; sheet++) {
                due("at first", x.drop(sheet), NULL);
                x.sheet(sheet, INTS, 1);
                x.drop(sheet);
                due("dropped", x.drop(sheet), NULL);
            }
        });
    }

    private void keeps(int lane, int v, int want) {
        OneOfEach x = Make.onSheet(new OneOfEach(), 0, lane, v);
        due("lane " + lane + ", v " + v, x.worth(0, lane, 0, 1, 12, 0, 0), want);
    }

    private void item() {
        says("Item i of a SHEET, taken as a row of a LANE, becomes v,", () -> {
            for (int sheet = 0; sheet < 4; sheet++) {
                for (int lane = 0; lane < 3; lane++) {
                    OneOfEach x = new OneOfEach();
                    x.sheet(sheet, lane, 16);
                    for (int i = 0; i < 16; i++) {
                        due("item " + i, x.item(sheet, lane, i, i % 13), 1);
                    }
                    for (int i = 0; i < 16; i++) {
                        due("item " + i + " then", x.worth(sheet, lane, i, 1, 12, 0, 0), i % 13);
                    }
                }
            }
        });
        says("its lowest bits: 1.", () -> {
            int[] bits = {8, 16};
            for (int lane = 0; lane < 2; lane++) {
                int round = 1 << bits[lane];
                for (int p : new int[] {0, 1, 12}) {
                    keeps(lane, round + p, p);
                    keeps(lane, -round + p, p);
                    keeps(lane, MIN + p, p);
                    keeps(lane, 5 * round + p, p);
                    keeps(INTS, p, p);
                    keeps(INTS, round + p, NOT);
                    keeps(INTS, MIN + p, NOT);
                }
                keeps(lane, round / 2, NOT);
                keeps(lane, round - 1, NOT);
                keeps(lane, round + 13, NOT);
                keeps(lane, MAX, NOT);
            }
            keeps(SHORTS, 256 + 5, NOT);
            keeps(BYTES, 65536 + 5, 5);
            due("255 of bytes is -1", Make.onSheet(house("al1"), 0, BYTES, 255).judge(0, BYTES, 0), NONE);
            due("255 of shorts is not", Make.onSheet(house("al1"), 0, SHORTS, 255).judge(0, SHORTS, 0), 0);
            due("65535 of shorts is -1", Make.onSheet(house("al1"), 0, SHORTS, 65535).judge(0, SHORTS, 0), NONE);
            due("65535 of ints is not", Make.onSheet(house("al1"), 0, INTS, 65535).judge(0, INTS, 0), 0);
            due("the lowest bits do", Make.onSheet(house("al1,al1"), 0, BYTES, 257, -256).judge(0, BYTES, 0), NONE);
        });
    }

    private void itemRefusals() {
        says("BAD;", () -> {
            OneOfEach x = Make.onSheet(new OneOfEach(), 0, INTS, 7);
            for (int sheet : new int[] {-1, 4, MIN, MAX}) {
                due("sheet " + sheet, x.item(sheet, INTS, 0, 1), BAD);
            }
            for (int lane : new int[] {-1, 3, MIN, MAX}) {
                due("lane " + lane, x.item(0, lane, 0, 1), BAD);
            }
            due("as it was", x.worth(0, INTS, 0, 1, 12, 0, 0), 7);
        });
        says("NULL;", () -> {
            OneOfEach x = new OneOfEach();
            due("at first", x.item(3, INTS, 0, 1), NULL);
            x.sheet(3, INTS, 1);
            x.drop(3);
            due("dropped", x.item(3, INTS, 0, 1), NULL);
        });
        says("CAST;", () -> {
            for (int lane = 0; lane < 3; lane++) {
                OneOfEach x = Make.onSheet(new OneOfEach(), 0, lane, 7);
                for (int as = 0; as < 3; as++) {
                    if (as != lane) {
                        due("lane " + lane + " as " + as, x.item(0, as, 0, 1), CAST);
                    }
                }
                due("as it was", x.worth(0, lane, 0, 1, 12, 0, 0), 7);
            }
        });
        says("INDEX.", () -> {
            OneOfEach x = Make.onSheet(new OneOfEach(), 0, INTS, 7, 8);
            for (int i : new int[] {-1, 2, 3, 15, 16, MIN, MAX}) {
                due("item " + i, x.item(0, INTS, i, 1), INDEX);
            }
            due("as it was", x.worth(0, INTS, 0, 1, 12, 0, 0), 7);
            due("as it was", x.worth(0, INTS, 1, 1, 12, 0, 0), 8);
            x.sheet(0, INTS, 0);
            due("no items", x.item(0, INTS, 0, 1), INDEX);
        });
    }
}
