import java.util.ArrayList;
import java.util.List;

/**
 * Objects made twice by the same calls, so that all that can be seen of the one can be held against
 * the other. Looking changes what is looked at: each part is looked at on an object of its own.
 */
final class Twins {
    static final int HOUSE_PARTS = 5, TAPE = 5, SHEETS = 6, PARTS = 7 + HOUSE_PARTS;

    private Twins() {
    }

    /** Socks in every place, settings, owners, wishes, an image of an earlier state, sheets, a tape. */
    static OneOfEach rich() {
        OneOfEach x = Make.house("al5-7:xy,ar6,al30,ar31,bl7:z,br8,cl50");
        x.fade(0, 3);
        x.fade(1, 2);
        x.set(0, 6);
        x.pairUp();
        x.part(4);
        x.monday(4 + 8 + 64, 8 + 64);
        x.owns(0, 0, 1, 3);
        x.may(6, 5);
        x.bind(4, 5);
        x.wish(0, 3);
        x.wish(1, 4);
        x.image();
        x.fade(5, 9);
        x.set(0, 7);
        x.sock(5, 1, 1, 2);
        x.wish(2, 32);
        Make.onSheet(x, 0, 0, 12, 3, 1, -1, 7);
        Make.onSheet(x, 1, 1, 1, 2, 3, 4, 5, 6, 7, 8, 9, 10, 11, 12, 0, 1, 2, 3);
        Make.onSheet(x, 2, 2, 300, 5, 0);
        Make.typed(x, "dl9:y");
        return x;
    }

    /** No room for a sock, for a monday, for two bytes; no image. */
    static OneOfEach crowded() {
        OneOfEach x = Make.house("al1,ar1,bl1,br1,cl1,cr1,dl1,dr1");
        Make.put(x, "el1,er1,fl1,fr1");
        x.pairUp();
        x.part(0);
        x.fade(1, 4);
        for (int i = 0; i < 11; i++) {
            x.monday(0, 0);
        }
        x.monday(4 + 8, 4);
        Make.typed(x, "al1,al1,al1,al1,al1,al1,al1,al1" + " ".repeat(48));
        return x;
    }

    /** Changes all that an image keeps, of a rich one. */
    static void changeAll(OneOfEach x) {
        x.sock(2, 0, 3, 3);
        x.set(0, 19);
        x.set(1, 1);
        x.found(2);
        x.part(0);
        int all = (1 << x.count(0)) - 1;
        x.monday(all - 8, all - 9);
        for (int kind = 0; kind < 6; kind++) {
            x.fade(kind, 8 - kind);
            for (int lodger = 0; lodger < 3; lodger++) {
                x.owns(lodger, kind, 1, 5);
            }
        }
        for (int lodger = 0; lodger < 3; lodger++) {
            x.wish(lodger, 16);
        }
        for (int sock = 0; sock < 8; sock++) {
            x.may(sock, 2);
        }
        x.bind(0, 1);
        x.bind(1, 3);
    }

    /** All that can be seen of one part. */
    static List<Long> look(OneOfEach x, int part) {
        List<Long> seen = new ArrayList<>();
        if (part >= PARTS - HOUSE_PARTS) {
            seen.add((long) x.restore());
            lookAtHouse(x, part - (PARTS - HOUSE_PARTS), seen);
        } else if (part == TAPE) {
            lookAtTape(x, seen);
        } else if (part == SHEETS) {
            lookAtSheets(x, seen);
        } else {
            lookAtHouse(x, part, seen);
        }
        return seen;
    }

    private static void lookAtHouse(OneOfEach x, int part, List<Long> seen) {
        int n = x.count(0);
        seen.add((long) n);
        switch (part) {
            case 0:
                lookAtSocks(x, 0, n, seen);
                break;
            case 1:
                for (int a = 0; a < n; a++) {
                    for (int b = 0; b < a; b++) {
                        seen.add((long) x.alike(a, b));
                        seen.add((long) x.fellows(a, b));
                    }
                }
                break;
            case 2:
                lookAtAnswers(x, n, seen);
                break;
            case 3:
                lookAtSettings(x, n, seen);
                break;
            default:
                for (int a = 0; a < n; a++) {
                    for (int b = 0; b < a; b++) {
                        seen.add((long) x.bind(a, b));
                    }
                }
        }
    }

    private static void lookAtSocks(OneOfEach x, int from, int end, List<Long> seen) {
        for (int sock = from; sock < end; sock++) {
            for (int what = 0; what < 8; what++) {
                seen.add((long) x.told(sock, what));
            }
        }
    }

    private static void lookAtAnswers(OneOfEach x, int n, List<Long> seen) {
        for (int what = 0; what < 6; what++) {
            seen.add((long) x.count(what));
            seen.add((long) x.lacks(what, 0));
            seen.add((long) x.lacks(what, 1));
        }
        for (int what = 0; what < 2; what++) {
            seen.add((long) x.pairs(what));
            seen.add((long) x.seldom(what));
            for (int d = 0; d <= 12; d++) {
                seen.add((long) x.odds(d, what));
            }
        }
        for (int sock = 0; sock < n; sock++) {
            seen.add((long) x.fellow(sock));
            seen.add((long) x.whose(sock));
        }
        seen.add((long) x.worst());
        seen.add(x.ways());
        seen.add((long) x.buy());
    }

    private static void lookAtSettings(OneOfEach x, int n, List<Long> seen) {
        for (int kind = 0; kind < 6; kind++) {
            seen.add((long) x.fade(kind, 0));
            for (int lodger = 0; lodger < 3; lodger++) {
                seen.add((long) x.owns(lodger, kind, 0, 12));
            }
        }
        for (int lodger = 0; lodger < 3; lodger++) {
            seen.add((long) x.wish(lodger, 0));
        }
        seen.add((long) x.set(0, 5));
        seen.add((long) x.set(1, 0));
        for (int sock = 0; sock < n; sock++) {
            seen.add((long) x.may(sock, 7));
        }
    }

    private static void lookAtTape(OneOfEach x, List<Long> seen) {
        int n = x.count(0);
        seen.add((long) x.type(' ', 1));
        seen.add((long) x.socks());
        lookAtSocks(x, n, x.count(0), seen);
        for (int sock = n; sock < x.count(0); sock++) {
            seen.add((long) x.may(sock, 7));
        }
    }

    private static void lookAtSheets(OneOfEach x, List<Long> seen) {
        for (int sheet = 0; sheet < 4; sheet++) {
            for (int lane = 0; lane < 3; lane++) {
                for (int i = 0; i <= 16; i++) {
                    seen.add(x.worth(sheet, lane, i, 1, 12, 0, 0));
                }
            }
        }
    }
}
