import java.util.HashMap;
import java.util.List;
import java.util.Map;
import java.util.function.Supplier;
import java.util.function.ToLongFunction;

/** What the terms say of refusals, for all calls. */
final class RefusalsChapter extends Chapter {
    private final Map<Supplier<OneOfEach>, Map<Integer, List<Long>>> undisturbed = new HashMap<>();

    RefusalsChapter(Book book) {
        super(book);
    }

    @Override
    void tell() {
        at("What it is");
        calls();
        at("Terms");
        constants();
        theFirstNamed();
        ofTheMachine();
        changesNothing();
        butAsTold();
        sets();
    }

    private void calls() {
        says("An object is used for at most 512 calls after it has been made;", () -> {
            OneOfEach x = new OneOfEach();
            for (int i = 0; i < 512; i++) {
                due("call " + i, x.fade(3, (i + 1) % 10), i % 10);
            }
            OneOfEach y = new OneOfEach();
            for (int i = 0; i < 128; i++) {
                due("type", y.type(Make.word(",al12-13"), 7), 7);
                due("image", y.image(), 1);
                due("socks", y.socks(), 1);
                due("restore", y.restore(), 1);
            }
            OneOfEach z = house("al1");
            for (int i = 0; i < 255; i++) {
                due("sheet", z.sheet(i % 4, i % 3, i % 17), i % 17);
                due("drop", z.drop(i % 4), i % 17);
            }
        });
    }

    private void constants() {
        says("BAD -1 (a number is not as told, or names nothing), NOT -2 (as told), FULL -3, NONE -4 (as told),", () -> {
            due("BAD", OneOfEach.BAD, -1);
            due("NOT", OneOfEach.NOT, -2);
            due("FULL", OneOfEach.FULL, -3);
            due("NONE", OneOfEach.NONE, -4);
            due("a number that is not as told", new OneOfEach().fade(0, 10), -1);
            due("a number that names nothing", new OneOfEach().told(0, 0), -1);
            due("not lost", house("al1").found(0), -2);
            due("full", Make.twelve().sock(0, 0, 0, 0), -3);
            due("none", new OneOfEach().restore(), -4);
        });
        says("CAST -12 (of SHEETS another LANE);", () -> {
            due("CAST", OneOfEach.CAST, -12);
            for (int lane = 0; lane < 3; lane++) {
                for (int as = 0; as < 3; as++) {
                    OneOfEach x = Make.onSheet(house("al1"), 0, lane, -1);
                    due("judge " + lane + " as " + as, x.judge(0, as, 0), as == lane ? NONE : -12);
                    due("thrown " + lane + " as " + as, x.thrown(0, as, 0, 1, 1, 1), as == lane ? NOT : -12);
                    due("worth " + lane + " as " + as, x.worth(0, as, 0, 1, 1, 1, 0), as == lane ? NOT : -12);
                    due("item " + lane + " as " + as, x.item(0, as, 0, 1), as == lane ? 1 : -12);
                }
            }
        });
        says("what the machine finds: NULL -11, INDEX -13, SIZE -14", () -> {
            due("NULL", OneOfEach.NULL, -11);
            due("INDEX", OneOfEach.INDEX, -13);
            due("SIZE", OneOfEach.SIZE, -14);
            OneOfEach x = Make.onSheet(house("al1"), 0, INTS, -1);
            due("nothing", x.item(1, INTS, 0, 1), -11);
            due("no such item", x.item(0, INTS, 1, 1), -13);
            due("a length below 0", x.sheet(0, INTS, -1), -14);
        });
    }

    private void theFirstNamed() {
        says("Refusals are answers, of several the first that a call names:", () -> {
            OneOfEach x = Twins.crowded();
            due("sock: BAD, FULL", x.sock(6, 0, 0, 0), BAD);
            due("sock: FULL", x.sock(0, 0, 0, 0), FULL);
            due("type: BAD, FULL", x.type(31, 2), BAD);
            due("type: BAD, FULL", x.type(32, 9), BAD);
            due("type: FULL", x.type(Make.word("  "), 2), FULL);
            due("monday: BAD, NOT, FULL", x.monday(8, 16), BAD);
            due("monday: BAD, NOT", x.monday(8 + (1 << 12), 0), BAD);
            due("monday: NOT, FULL", x.monday(8, 0), NOT);
            due("monday: NOT, FULL", x.monday(16, 0), NOT);
            due("monday: BAD, FULL", x.monday(0, 1), BAD);
            due("monday: FULL", x.monday(1, 1), FULL);
            due("odds: BAD, NOT", x.odds(12, 2), BAD);
            due("odds: NOT", x.odds(12, 0), NOT);
            x.socks();
            due("socks: a FAULT, FULL", put(x, "al1,a"), -25);
            due("socks: FULL", put(x, "al1,al1"), FULL);
            OneOfEach y = house("al1,bl1");
            due("seldom: BAD, NOT", y.seldom(2), BAD);
            y.owns(0, 0, 5, 5);
            due("whose: BAD, NONE", y.whose(2), BAD);
            due("whose: NONE", y.whose(1), NONE);
            due("marks: BAD, NONE", y.marks(5, 3, 5), BAD);
            due("marks: BAD, NONE", y.marks(5, 3, -2), BAD);
            due("marks: NONE", y.marks(5, 3, 4), NONE);
        });
    }

    private void ofTheMachine() {
        says("(NULL, CAST, INDEX, SIZE in this order, behind BAD).", () -> {
            OneOfEach x = Make.onSheet(house("al1,al1"), 0, INTS, 13, 13);
            due("judge: BAD, NULL", x.judge(1, 3, 0), BAD);
            due("judge: NULL, INDEX", x.judge(1, 0, -1), NULL);
            due("judge: BAD, CAST", x.judge(0, -1, 0), BAD);
            due("judge: CAST, INDEX", x.judge(0, BYTES, 1), CAST);
            due("judge: CAST, INDEX", x.judge(0, SHORTS, -1), CAST);
            due("judge: INDEX, and one that may not be", x.judge(0, INTS, 1), INDEX);
            int[][] wrong = {{1, 0, 1, 1}, {1, 9, 1, 1}, {1, 1, -1, 1}, {1, 1, 1000, 1}, {1, 1, 1, -1}, {1, 1, 1, 100}};
            for (int[] w : wrong) {
                due("thrown: BAD, NULL", x.thrown(1, 0, w[0], w[1], w[2], w[3]), BAD);
                due("thrown: BAD, CAST", x.thrown(0, 0, w[0], w[1], w[2], w[3]), BAD);
                due("thrown: BAD, INDEX", x.thrown(0, INTS, -1, w[1], w[2], w[3]), BAD);
                due("worth: BAD, NULL", x.worth(1, 0, w[0], w[1], w[2], w[3], 0), BAD);
                due("worth: BAD, CAST", x.worth(0, 0, w[0], w[1], w[2], w[3], 1), BAD);
                due("worth: BAD, INDEX", x.worth(0, INTS, -1, w[1], w[2], w[3], 0), BAD);
            }
            due("worth: BAD, NULL", x.worth(1, 0, 0, 1, 1, 1, 2), BAD);
            due("worth: BAD, CAST", x.worth(0, 0, 0, 1, 1, 1, 2), BAD);
            due("worth: BAD, INDEX", x.worth(0, INTS, 2, 1, 1, 1, -1), BAD);
            due("worth: BAD, NOT", x.worth(0, INTS, 0, 1, 1, 1, -1), BAD);
            due("thrown: NULL, INDEX", x.thrown(1, 0, -1, 1, 1, 1), NULL);
            due("thrown: CAST, INDEX", x.thrown(0, 0, -1, 1, 1, 1), CAST);
            due("thrown: CAST, NOT", x.thrown(0, 0, 0, 1, 1, 1), CAST);
            due("thrown: INDEX, NOT", x.thrown(0, INTS, 1, 2, 1, 1), INDEX);
            due("thrown: NOT", x.thrown(0, INTS, 1, 1, 999, 0), NOT);
            due("worth: NULL, INDEX", x.worth(1, 0, -1, 1, 1, 1, 0), NULL);
            due("worth: CAST, INDEX", x.worth(0, 0, -1, 1, 1, 1, 0), CAST);
            due("worth: CAST, NOT", x.worth(0, 0, 0, 1, 1, 1, 0), CAST);
            due("worth: INDEX, NOT", x.worth(0, INTS, 1, 2, 1, 1, 0), INDEX);
            due("sheet: BAD, SIZE", x.sheet(4, 0, -1), BAD);
            due("sheet: BAD, SIZE", x.sheet(-1, 0, -1), BAD);
            due("sheet: BAD, SIZE", x.sheet(0, 3, -1), BAD);
            due("sheet: BAD, SIZE", x.sheet(0, -1, -1), BAD);
            due("item: BAD, NULL", x.item(1, 3, -1, 0), BAD);
            due("item: BAD, CAST, INDEX", x.item(0, 3, -1, 0), BAD);
            due("item: NULL, INDEX", x.item(1, 0, -1, 0), NULL);
            due("item: CAST, INDEX", x.item(0, 0, 2, 0), CAST);
        });
    }

    // ---- What is refused changes nothing

    private List<Long> undisturbed(Supplier<OneOfEach> maker, int part) {
        return undisturbed.computeIfAbsent(maker, m -> new HashMap<>()).computeIfAbsent(part, p -> Twins.look(maker.get(), p));
    }

    private void refused(String call, Supplier<OneOfEach> maker, ToLongFunction<OneOfEach> refusal, long want) {
        for (int part = 0; part < Twins.PARTS; part++) {
            OneOfEach x = maker.get();
            due(call, refusal.applyAsLong(x), want);
            holds(call + " left part " + part + " as it was", Twins.look(x, part).equals(undisturbed(maker, part)));
        }
    }

    private void changesNothing() {
        Supplier<OneOfEach> rich = Twins::rich;
        Supplier<OneOfEach> crowded = Twins::crowded;
        says("What is refused changes nothing,", () -> {
            refusedSocks(rich);
            refusedPairs(rich);
            refusedWeeks(rich);
            refusedOwners(rich);
            refusedSheets(rich);
            refusedForRoom(crowded);
        });
        says("What is refused changes nothing,", () -> {
            Supplier<OneOfEach> noWay = () -> {
                OneOfEach x = Twins.rich();
                x.owns(0, 0, 12, 12);
                return x;
            };
            refused("whose NONE", noWay, x -> x.whose(0), NONE);
            Supplier<OneOfEach> noneLost = () -> {
                OneOfEach x = Twins.rich();
                x.found(2);
                return x;
            };
            refused("seldom NOT", noneLost, x -> x.seldom(0), NOT);
            refused("found NOT", noneLost, x -> x.found(2), NOT);
            refused("restore NONE", OneOfEach::new, x -> x.restore(), NONE);
        });
    }

    private void refusedSocks(Supplier<OneOfEach> rich) {
        refused("sock, kind", rich, x -> x.sock(6, 0, 0, 0), BAD);
        refused("sock, hand", rich, x -> x.sock(0, 2, 0, 0), BAD);
        refused("sock, low", rich, x -> x.sock(0, 0, -1, 0), BAD);
        refused("sock, high", rich, x -> x.sock(0, 0, 0, 100), BAD);
        refused("sock, ends", rich, x -> x.sock(0, 0, 5, 4), BAD);
        refused("type, n", rich, x -> x.type('x', 0), BAD);
        refused("type, n", rich, x -> x.type(Make.word("xxxxxxxx"), 9), BAD);
        refused("type, the last byte", rich, x -> x.type('x' << 8 | 31, 2), BAD);
        refused("type, the first byte", rich, x -> x.type(127 << 8 | 'x', 2), BAD);
        refused("told, sock", rich, x -> x.told(8, 0), BAD);
        refused("told, what", rich, x -> x.told(0, 8), BAD);
        refused("told NONE", rich, x -> x.told(3, 5), NONE);
        refused("told NONE", rich, x -> x.told(3, 7), NONE);
        refused("fade, kind", rich, x -> x.fade(6, 1), BAD);
        refused("fade, v", rich, x -> x.fade(0, 10), BAD);
        refused("set, what", rich, x -> x.set(2, 1), BAD);
        refused("set, likeness", rich, x -> x.set(0, 21), BAD);
        refused("set, handed", rich, x -> x.set(1, 2), BAD);
        refused("monday, no sock", rich, x -> x.monday(8 + 256, 8), BAD);
        refused("monday, back", rich, x -> x.monday(8, 8 + 16), BAD);
        refused("monday, lost", rich, x -> x.monday(4 + 8, 8), NOT);
        refused("monday, one of a pair", rich, x -> x.monday(1 + 8, 8), NOT);
        refused("monday, the other of a pair", rich, x -> x.monday(2 + 8, 0), NOT);
        refused("found, sock", rich, x -> x.found(8), BAD);
        refused("found, in the box", rich, x -> x.found(3), NOT);
        refused("found, paired", rich, x -> x.found(0), NOT);
        refused("alike", rich, x -> x.alike(3, 3), BAD);
        refused("fellows", rich, x -> x.fellows(8, 3), BAD);
        refused("count", rich, x -> x.count(6), BAD);
    }

    private void refusedPairs(Supplier<OneOfEach> rich) {
        refused("pairs", rich, x -> x.pairs(2), BAD);
        refused("fellow, sock", rich, x -> x.fellow(8), BAD);
        refused("fellow NONE", rich, x -> x.fellow(6), NONE);
        refused("part, sock", rich, x -> x.part(8), BAD);
        refused("part, in the box", rich, x -> x.part(3), NOT);
        refused("part, lost", rich, x -> x.part(2), NOT);
        refused("judge, sheet", rich, x -> x.judge(4, 0, 0), BAD);
        refused("judge, lane", rich, x -> x.judge(0, 3, 0), BAD);
        refused("judge, nothing", rich, x -> x.judge(3, 0, 0), NULL);
        refused("judge, another lane", rich, x -> x.judge(0, 1, 0), CAST);
        refused("judge, index", rich, x -> x.judge(1, 1, 9), INDEX);
        refused("odds, d", rich, x -> x.odds(13, 0), BAD);
        refused("odds, what", rich, x -> x.odds(0, 2), BAD);
        refused("odds NOT", rich, x -> x.odds(6, 0), NOT);
    }

    private void refusedWeeks(Supplier<OneOfEach> rich) {
        refused("thrown, n", rich, x -> x.thrown(0, 0, 0, 9, 1, 1), BAD);
        refused("thrown, nothing", rich, x -> x.thrown(3, 0, 0, 1, 1, 1), NULL);
        refused("thrown, another lane", rich, x -> x.thrown(0, 2, 0, 1, 1, 1), CAST);
        refused("thrown, index", rich, x -> x.thrown(0, 0, 5, 1, 1, 1), INDEX);
        refused("thrown, odds", rich, x -> x.thrown(0, 0, 0, 5, 1, 1), NOT);
        refused("thrown NONE", rich, x -> x.thrown(0, 0, 0, 1, 5, 1), NONE);
        refused("worth, what", rich, x -> x.worth(0, 0, 0, 1, 1, 1, 2), BAD);
        refused("worth, nothing", rich, x -> x.worth(3, 0, 0, 1, 1, 1, 0), NULL);
        refused("worth, another lane", rich, x -> x.worth(1, 0, 0, 1, 1, 1, 0), CAST);
        refused("worth, index", rich, x -> x.worth(2, 2, 2, 2, 1, 1, 0), INDEX);
        refused("worth, odds", rich, x -> x.worth(2, 2, 0, 2, 1, 1, 0), NOT);
    }

    private void refusedOwners(Supplier<OneOfEach> rich) {
        refused("owns, lodger", rich, x -> x.owns(3, 0, 0, 0), BAD);
        refused("owns, kind", rich, x -> x.owns(0, 6, 0, 0), BAD);
        refused("owns, least", rich, x -> x.owns(0, 0, -1, 0), BAD);
        refused("owns, most", rich, x -> x.owns(0, 0, 0, 13), BAD);
        refused("owns, ends", rich, x -> x.owns(0, 0, 2, 1), BAD);
        refused("may, sock", rich, x -> x.may(8, 1), BAD);
        refused("may, lodgers", rich, x -> x.may(0, 8), BAD);
        refused("bind, one sock", rich, x -> x.bind(0, 0), BAD);
        refused("bind, no sock", rich, x -> x.bind(0, 8), BAD);
        refused("bind, unlike kinds", rich, x -> x.bind(0, 4), NOT);
        refused("bind, bound already", rich, x -> x.bind(5, 4), NONE);
        refused("whose", rich, x -> x.whose(8), BAD);
        refused("seldom", rich, x -> x.seldom(2), BAD);
        refused("lacks", rich, x -> x.lacks(6, 0), -1001);
        refused("wish, lodger", rich, x -> x.wish(3, 1), BAD);
        refused("wish, kinds", rich, x -> x.wish(0, 64), BAD);
        refused("marks, m", rich, x -> x.marks(6, 0, -1), BAD);
        refused("marks NONE", rich, x -> x.marks(5, 3, -1), NONE);
    }

    private void refusedSheets(Supplier<OneOfEach> rich) {
        refused("sheet, sheet", rich, x -> x.sheet(4, 0, 1), BAD);
        refused("sheet, lane", rich, x -> x.sheet(0, 3, 1), BAD);
        refused("sheet, n", rich, x -> x.sheet(0, 0, 17), BAD);
        refused("sheet, size", rich, x -> x.sheet(0, 0, -1), SIZE);
        refused("sheet, size of nothing", rich, x -> x.sheet(3, 0, -1), SIZE);
        refused("drop, sheet", rich, x -> x.drop(4), BAD);
        refused("drop, nothing", rich, x -> x.drop(3), NULL);
        refused("item, sheet", rich, x -> x.item(4, 0, 0, 9), BAD);
        refused("item, lane", rich, x -> x.item(0, 3, 0, 9), BAD);
        refused("item, nothing", rich, x -> x.item(3, 0, 0, 9), NULL);
        refused("item, another lane", rich, x -> x.item(0, 1, 0, 9), CAST);
        refused("item, behind", rich, x -> x.item(0, 0, 5, 9), INDEX);
        refused("item, ahead", rich, x -> x.item(0, 0, -1, 9), INDEX);
    }

    private void refusedForRoom(Supplier<OneOfEach> crowded) {
        refused("sock FULL", crowded, x -> x.sock(0, 0, 50, 60), FULL);
        refused("type FULL", crowded, x -> x.type(Make.word("  "), 2), FULL);
        refused("type FULL", crowded, x -> x.type(Make.word("        "), 8), FULL);
        refused("monday FULL", crowded, x -> x.monday(1 + 4, 1), FULL);
        refused("monday FULL", crowded, x -> x.monday(0, 0), FULL);
        refused("restore NONE", crowded, x -> x.restore(), NONE);
    }

    /** Of refused texts only the tape tells: it is empty then. */
    private void onlyTheTape(String call, Supplier<OneOfEach> maker, long want) {
        for (int part = 0; part < Twins.PARTS; part++) {
            OneOfEach x = maker.get();
            due(call, x.socks(), want);
            if (part == Twins.TAPE) {
                due(call + ": the tape is empty", x.type(' ', 1), 1);
            } else {
                holds(call + " left part " + part + " as it was", Twins.look(x, part).equals(undisturbed(maker, part)));
            }
        }
    }

    private void butAsTold() {
        says("but as told.", () -> {
            Supplier<OneOfEach> faulty = () -> {
                OneOfEach x = Twins.rich();
                x.type(Make.word(",al1,al?"), 8);
                return x;
            };
            onlyTheTape("socks, a FAULT", faulty, -32);
            onlyTheTape("socks FULL", Twins::crowded, FULL);
        });
    }

    private void sets() {
        says("Sets are bits.", () -> {
            OneOfEach x = house("al1,bl1,cl1,dl1");
            due("socks 1 and 3 went, 3 came back", x.monday(2 + 8, 8), 1);
            int[] went = {0, 1, 0, 1};
            int[] where = {0, 1, 0, 0};
            for (int sock = 0; sock < 4; sock++) {
                due("went " + sock, x.told(sock, 6), went[sock]);
                due("where " + sock, x.told(sock, 4), where[sock]);
            }
            x.may(0, 4 + 1);
            due("lodgers 0 and 2", x.whose(0), 5);
            x.owns(0, 0, 1, 1);
            due("lodger 0", x.whose(0), 1);
            x.owns(0, 0, 0, 0);
            due("lodger 2", x.whose(0), 4);
            x.wish(0, 8);
            x.wish(1, 32 + 2);
            due("kinds 1 and 3", x.buy(), 10);
            due("the lodgers of a text", house("al1:xz").whose(0), 5);
        });
    }
}
