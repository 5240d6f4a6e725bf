/**
 * One of each: a lodging house whose socks are washed together on Mondays.
 * Every refusal is an answer, nothing is thrown; no call makes an object, so
 * that a long run of calls stays within the room that its object took at first.
 */
public final class OneOfEach {
    public static final int BAD = -1, NOT = -2, FULL = -3, NONE = -4, NULL = -11, CAST = -12, INDEX = -13, SIZE = -14;

    private static final int SOCKS = 12, KINDS = 6, HANDS = 2, LODGERS = 3, MONDAYS = 12;
    private static final int TOP_TONE = 99, TOP_FADE = 9, TOP_LIKENESS = 20, TOP_OWNED = 12;
    private static final int BOX = 0, LOST = 1, PAIRED = 2;
    private static final int LEFT = 0, RIGHT = 1;
    private static final int ALL_LODGERS = 7, ALL_KINDS = 63;
    private static final int SHEETS = 4, LANES = 3, ITEMS = 16;
    private static final int WEEKS = 8, TOP_VALUE = 999, TOP_COST = 99, TWELFTHS = 12;
    private static final int ABOVE = 0, PARTS = 2;
    private static final int FINE = 0;
    private static final int GCD_STEPS = 200;

    private final House house = new House();
    private final House kept = new House();
    private boolean hasImage;
    private final Tape tape = new Tape();
    private final Sock draft = new Sock();
    private final Pairing pairing = new Pairing();
    private final Weeks weeks = new Weeks();
    private final Dark dark = new Dark();
    private final Owning owning = new Owning();
    private final Threads threads = new Threads();
    private final Sheet[] sheets = new Sheet[SHEETS];

    public OneOfEach() {
        for (int i = 0; i < SHEETS; i++) {
            sheets[i] = new Sheet();
        }
    }

    // ---- 1 socks, mondays

    public int sock(int kind, int hand, int low, int high) {
        if (!within(kind, KINDS) || !within(hand, HANDS)) {
            return BAD;
        }
        if (low < 0 || high > TOP_TONE || low > high) {
            return BAD;
        }
        draft.begin(kind, hand, low, high, ALL_LODGERS);
        return house.add(draft);
    }

    public int type(long w, int n) {
        return tape.append(w, n);
    }

    public int socks() {
        int read = tape.read();
        tape.length = 0;
        if (read < 0) {
            return read;
        }
        if (house.size + read > SOCKS) {
            return FULL;
        }
        for (int i = 0; i < read; i++) {
            house.add(tape.drafts[i]);
        }
        return read;
    }

    public int told(int sock, int what) {
        if (!isSock(sock) || !within(what, Sock.TRAITS)) {
            return BAD;
        }
        return what == Sock.OUTINGS ? house.outingsOf(sock) : house.socks[sock].trait(what);
    }

    public int fade(int kind, int v) {
        if (!within(kind, KINDS) || !within(v, TOP_FADE + 1)) {
            return BAD;
        }
        int was = house.fades[kind];
        house.fades[kind] = v;
        return was;
    }

    public int set(int what, int v) {
        if (what == 0 && within(v, TOP_LIKENESS + 1)) {
            int was = house.likeness;
            house.likeness = v;
            return was;
        }
        if (what == 1 && within(v, 2)) {
            int was = house.handed;
            house.handed = v;
            return was;
        }
        return BAD;
    }

    public int monday(int went, int back) {
        if ((went & ~house.everyone()) != 0 || (back & ~went) != 0) {
            return BAD;
        }
        if (!house.canGo(went)) {
            return NOT;
        }
        return house.wash(went, back);
    }

    public int found(int sock) {
        if (!isSock(sock)) {
            return BAD;
        }
        Sock lost = house.socks[sock];
        if (lost.where != LOST) {
            return NOT;
        }
        int since = lost.since;
        lost.toBox();
        return since;
    }

    public int alike(int a, int b) {
        return areTwo(a, b) ? house.likenessOf(a, b) : BAD;
    }

    public int fellows(int a, int b) {
        return areTwo(a, b) ? house.bars(a, b) : BAD;
    }

    public int count(int what) {
        switch (what) {
            case 0:
                return house.size;
            case 1:
                return Integer.bitCount(house.placed(BOX));
            case 2:
                return Integer.bitCount(house.placed(LOST));
            case 3:
                return Integer.bitCount(house.placed(PAIRED));
            case 4:
                return house.mondays;
            case 5:
                return Integer.bitCount(house.placed(LOST) & house.having(Sock.HAND, LEFT));
            default:
                return BAD;
        }
    }

    // ---- 2 pairs, weeks, draws

    public int pairs(int what) {
        if (!within(what, 2)) {
            return BAD;
        }
        pairing.make(house);
        return what == 0 ? pairing.made : pairing.distance;
    }

    public int fellow(int sock) {
        if (!isSock(sock)) {
            return BAD;
        }
        pairing.make(house);
        return pairing.partner[sock];
    }

    public int pairUp() {
        pairing.make(house);
        for (int sock = 0; sock < house.size; sock++) {
            if (pairing.partner[sock] != NONE) {
                house.socks[sock].toPair(pairing.partner[sock]);
            }
        }
        return pairing.made;
    }

    public int part(int sock) {
        if (!isSock(sock)) {
            return BAD;
        }
        return house.unpair(sock);
    }

    public int judge(int sheet, int lane, int from) {
        if (!within(sheet, SHEETS) || !within(lane, LANES)) {
            return BAD;
        }
        Sheet row = sheets[sheet];
        int refusal = row.refusal(lane, from, house.size);
        if (refusal != FINE) {
            return refusal;
        }
        for (int sock = 0; sock < house.size; sock++) {
            if (!isWellTold(row, from, sock)) {
                return sock;
            }
        }
        return NONE;
    }

    public int thrown(int sheet, int lane, int from, int n, int v, int c) {
        int refusal = reckonWeeks(sheet, lane, from, n, v, c);
        return refusal != FINE ? refusal : weeks.firstWorthless();
    }

    public long worth(int sheet, int lane, int from, int n, int v, int c, int what) {
        if (!within(what, PARTS)) {
            return BAD;
        }
        int refusal = reckonWeeks(sheet, lane, from, n, v, c);
        return refusal != FINE ? refusal : inLowestTerms(weeks.above[0], weeks.below, what);
    }

    public int worst() {
        dark.lay(house);
        int draws = dark.longestPairless() + 1;
        return draws > dark.box ? NONE : draws;
    }

    public int odds(int d, int what) {
        if (!within(d, SOCKS + 1) || !within(what, PARTS)) {
            return BAD;
        }
        dark.lay(house);
        if (d > dark.box) {
            return NOT;
        }
        long all = choose(dark.box, d);
        return (int) inLowestTerms(all - dark.pairless[d], all, what);
    }

    // ---- 3 owners, who takes, buying, marks

    public int owns(int lodger, int kind, int least, int most) {
        if (!within(lodger, LODGERS) || !within(kind, KINDS)) {
            return BAD;
        }
        if (least < 0 || most > TOP_OWNED || least > most) {
            return BAD;
        }
        int at = lodger * KINDS + kind;
        int was = house.least[at] + 16 * house.most[at];
        house.least[at] = least;
        house.most[at] = most;
        return was;
    }

    public int may(int sock, int lodgers) {
        if (!isSock(sock) || lodgers < 1 || lodgers > ALL_LODGERS) {
            return BAD;
        }
        int was = house.socks[sock].lodgers;
        house.socks[sock].lodgers = lodgers;
        return was;
    }

    public int bind(int a, int b) {
        if (!areTwo(a, b)) {
            return BAD;
        }
        if (house.socks[a].kind != house.socks[b].kind) {
            return NOT;
        }
        return house.join(a, b) ? 1 : NONE;
    }

    public long ways() {
        return owning.waysIf(house, NONE, ALL_LODGERS);
    }

    public int whose(int sock) {
        if (!isSock(sock)) {
            return BAD;
        }
        int lodgers = 0;
        for (int lodger = 0; lodger < LODGERS; lodger++) {
            if (owning.waysIf(house, sock, 1 << lodger) > 0) {
                lodgers |= 1 << lodger;
            }
        }
        return lodgers == 0 ? NONE : lodgers;
    }

    public int seldom(int what) {
        if (!within(what, PARTS)) {
            return BAD;
        }
        int lostSet = house.placed(LOST);
        if (lostSet == 0) {
            return NOT;
        }
        int lefts = house.having(Sock.HAND, LEFT);
        int lost = Integer.bitCount(lostSet);
        int left = Integer.bitCount(lefts);
        long hits = 0;
        for (int taken = Integer.bitCount(lostSet & lefts); taken <= lost; taken++) {
            hits += choose(left, taken) * choose(house.size - left, lost - taken);
        }
        return (int) inLowestTerms(hits, choose(house.size, lost), what);
    }

    public int lacks(int kind, int what) {
        if (!within(kind, KINDS) || !within(what, 2)) {
            return BAD - 1000;
        }
        int lost = house.placed(LOST);
        int asked = house.having(Sock.KIND, kind) & (what == 0 ? lost : ~lost);
        int left = Integer.bitCount(asked & house.having(Sock.HAND, LEFT));
        return left - (Integer.bitCount(asked) - left);
    }

    public int wish(int lodger, int kinds) {
        if (!within(lodger, LODGERS) || !within(kinds, ALL_KINDS + 1)) {
            return BAD;
        }
        int was = house.wishes[lodger];
        house.wishes[lodger] = kinds;
        return was;
    }

    public int buy() {
        int best = ALL_KINDS;
        for (int kinds = ALL_KINDS; kinds >= 0; kinds--) {
            if (house.meetsAllWishes(kinds) && Integer.bitCount(kinds) <= Integer.bitCount(best)) {
                best = kinds;
            }
        }
        return best;
    }

    public int marks(int m, int t, int i) {
        if (m < 1 || m > Threads.OWNERS || !within(t, Threads.LOSSES) || i < -1 || i >= m) {
            return BAD;
        }
        int n = threads.fewest(m, t);
        return i < 0 || n == NONE ? n : threads.markOf(m, t, i);
    }

    public int image() {
        kept.copyFrom(house);
        hasImage = true;
        return 1;
    }

    public int restore() {
        if (!hasImage) {
            return NONE;
        }
        house.copyFrom(kept);
        return 1;
    }

    // ---- 4 sheets

    public int sheet(int sheet, int lane, int n) {
        if (!within(sheet, SHEETS) || !within(lane, LANES) || n > ITEMS) {
            return BAD;
        }
        if (n < 0) {
            return SIZE;
        }
        sheets[sheet].renew(lane, n);
        return n;
    }

    public int drop(int sheet) {
        if (!within(sheet, SHEETS)) {
            return BAD;
        }
        Sheet dropped = sheets[sheet];
        if (!dropped.isThere()) {
            return NULL;
        }
        dropped.lane = Sheet.NOTHING;
        return dropped.length;
    }

    public int item(int sheet, int lane, int i, int v) {
        if (!within(sheet, SHEETS) || !within(lane, LANES)) {
            return BAD;
        }
        int refusal = sheets[sheet].refusal(lane, i, 1);
        if (refusal != FINE) {
            return refusal;
        }
        sheets[sheet].put(i, v);
        return 1;
    }

    // ---- what several calls ask

    private static boolean within(int v, int end) {
        return v >= 0 && v < end;
    }

    private boolean isSock(int sock) {
        return within(sock, house.size);
    }

    private boolean areTwo(int a, int b) {
        return isSock(a) && isSock(b) && a != b;
    }

    private boolean isWellTold(Sheet row, int from, int sock) {
        int other = row.items[from + sock];
        if (other == -1) {
            return true;
        }
        if (!areTwo(sock, other) || row.items[from + other] != sock) {
            return false;
        }
        boolean bothInBox = house.socks[sock].where == BOX && house.socks[other].where == BOX;
        return bothInBox && house.bars(sock, other) == 0;
    }

    private int reckonWeeks(int sheet, int lane, int from, int n, int v, int c) {
        if (!within(sheet, SHEETS) || !within(lane, LANES) || n < 1 || n > WEEKS) {
            return BAD;
        }
        if (!within(v, TOP_VALUE + 1) || !within(c, TOP_COST + 1)) {
            return BAD;
        }
        int refusal = sheets[sheet].refusal(lane, from, n);
        if (refusal != FINE) {
            return refusal;
        }
        if (!weeks.takeChances(sheets[sheet], from, n)) {
            return NOT;
        }
        weeks.reckon(v, c);
        return FINE;
    }

    private static long inLowestTerms(long above, long below, int what) {
        long part = what == ABOVE ? above : below;
        long common = commonDivisor(above, below);
        return common == 0 ? part : part / common;
    }

    private static long commonDivisor(long a, long b) {
        long large = a;
        long small = b;
        for (int step = 0; step < GCD_STEPS && small != 0; step++) {
            long rest = large % small;
            large = small;
            small = rest;
        }
        return large;
    }

    private static long choose(int n, int k) {
        if (k < 0 || k > n) {
            return 0;
        }
        long sets = 1;
        for (int i = 1; i <= k; i++) {
            sets = sets * (n - k + i) / i;
        }
        return sets;
    }

    private static final class Sock {
        // The numbers by which traits are asked for; OUTINGS are the house's to tell.
        static final int KIND = 0, HAND = 1, LOW = 2, HIGH = 3, WHERE = 4, OTHER = 5, OUTINGS = 6, SINCE = 7, TRAITS = 8;

        int kind;
        int hand;
        int low;
        int high;
        int where;
        int other = NONE;
        int since = NONE;
        int lodgers;
        // The number of one sock of those that are bound together, which stands for all of them.
        int bond;

        void begin(int newKind, int newHand, int newLow, int newHigh, int newLodgers) {
            kind = newKind;
            hand = newHand;
            low = newLow;
            high = newHigh;
            lodgers = newLodgers;
            toBox();
        }

        int trait(int what) {
            switch (what) {
                case KIND:
                    return kind;
                case HAND:
                    return hand;
                case LOW:
                    return low;
                case HIGH:
                    return high;
                case WHERE:
                    return where;
                case OTHER:
                    return other;
                case SINCE:
                    return since;
                default:
                    return BAD;
            }
        }

        void toBox() {
            where = BOX;
            other = NONE;
            since = NONE;
        }

        void toPair(int with) {
            where = PAIRED;
            other = with;
        }

        void toLost(int monday) {
            where = LOST;
            other = NONE;
            since = monday;
        }

        void wear(int fade) {
            low = Math.min(TOP_TONE, low + fade);
            high = Math.min(TOP_TONE, high + fade);
        }

        void copyFrom(Sock from) {
            kind = from.kind;
            hand = from.hand;
            low = from.low;
            high = from.high;
            where = from.where;
            other = from.other;
            since = from.since;
            lodgers = from.lodgers;
            bond = from.bond;
        }
    }

    /** All that an IMAGE keeps. */
    private static final class House {
        final Sock[] socks = new Sock[SOCKS];
        int size;
        final int[] went = new int[MONDAYS];
        // Those that were there, not lost, and did not go: who went and who stayed can't be fellows.
        final int[] stayed = new int[MONDAYS];
        int mondays;
        final int[] fades = new int[KINDS];
        int likeness = 5;
        int handed;
        final int[] least = new int[LODGERS * KINDS];
        final int[] most = new int[LODGERS * KINDS];
        final int[] wishes = new int[LODGERS];

        House() {
            for (int i = 0; i < SOCKS; i++) {
                socks[i] = new Sock();
            }
            for (int i = 0; i < LODGERS * KINDS; i++) {
                most[i] = TOP_OWNED;
            }
        }

        void copyFrom(House from) {
            size = from.size;
            mondays = from.mondays;
            likeness = from.likeness;
            handed = from.handed;
            for (int i = 0; i < SOCKS; i++) {
                socks[i].copyFrom(from.socks[i]);
            }
            System.arraycopy(from.went, 0, went, 0, MONDAYS);
            System.arraycopy(from.stayed, 0, stayed, 0, MONDAYS);
            System.arraycopy(from.fades, 0, fades, 0, KINDS);
            System.arraycopy(from.least, 0, least, 0, LODGERS * KINDS);
            System.arraycopy(from.most, 0, most, 0, LODGERS * KINDS);
            System.arraycopy(from.wishes, 0, wishes, 0, LODGERS);
        }

        int add(Sock newcomer) {
            if (size >= SOCKS) {
                return FULL;
            }
            int number = size;
            socks[number].copyFrom(newcomer);
            socks[number].bond = number;
            size++;
            return number;
        }

        int everyone() {
            return (1 << size) - 1;
        }

        int having(int trait, int v) {
            int set = 0;
            for (int i = 0; i < size; i++) {
                if (socks[i].trait(trait) == v) {
                    set |= 1 << i;
                }
            }
            return set;
        }

        int placed(int where) {
            return having(Sock.WHERE, where);
        }

        int outingsOf(int sock) {
            int outings = 0;
            for (int i = 0; i < mondays; i++) {
                outings += went[i] >> sock & 1;
            }
            return outings;
        }

        boolean canGo(int out) {
            for (int i = 0; i < size; i++) {
                if ((out >> i & 1) == 0) {
                    continue;
                }
                if (socks[i].where == LOST) {
                    return false;
                }
                if (socks[i].where == PAIRED && (out >> socks[i].other & 1) == 0) {
                    return false;
                }
            }
            return true;
        }

        int wash(int out, int back) {
            if (mondays >= MONDAYS) {
                return FULL;
            }
            went[mondays] = out;
            stayed[mondays] = everyone() & ~out & ~placed(LOST);
            for (int i = 0; i < size; i++) {
                if ((out >> i & 1) == 0) {
                    continue;
                }
                socks[i].wear(fades[socks[i].kind]);
                if ((back >> i & 1) == 0) {
                    unpair(i);
                    socks[i].toLost(mondays);
                }
            }
            mondays++;
            return Integer.bitCount(out & ~back);
        }

        int unpair(int sock) {
            int other = socks[sock].other;
            if (socks[sock].where != PAIRED || !within(other, size)) {
                return NOT;
            }
            socks[sock].toBox();
            socks[other].toBox();
            return other;
        }

        int likenessOf(int a, int b) {
            Sock one = socks[a];
            Sock two = socks[b];
            int farthest = Math.max(one.high - two.low, two.high - one.low);
            int nearest = Math.max(one.low - two.high, two.low - one.high);
            if (farthest <= likeness) {
                return 2;
            }
            return nearest <= likeness ? 1 : 0;
        }

        int bars(int a, int b) {
            int bars = 0;
            if (socks[a].kind != socks[b].kind) {
                bars |= 1;
            }
            if (handed == 1 && socks[a].hand == socks[b].hand) {
                bars |= 2;
            }
            if (likenessOf(a, b) == 0) {
                bars |= 4;
            }
            if (wereParted(a, b)) {
                bars |= 8;
            }
            return bars;
        }

        boolean wereParted(int a, int b) {
            for (int i = 0; i < mondays; i++) {
                int parted = (went[i] >> a & stayed[i] >> b) | (went[i] >> b & stayed[i] >> a);
                if ((parted & 1) == 1) {
                    return true;
                }
            }
            return false;
        }

        int distance(int a, int b) {
            return Math.abs(socks[a].low + socks[a].high - socks[b].low - socks[b].high);
        }

        boolean join(int a, int b) {
            int stays = socks[a].bond;
            int goes = socks[b].bond;
            if (stays == goes) {
                return false;
            }
            for (int i = 0; i < size; i++) {
                if (socks[i].bond == goes) {
                    socks[i].bond = stays;
                }
            }
            return true;
        }

        int boundTo(int first) {
            int set = 0;
            for (int i = 0; i < size; i++) {
                if (socks[i].bond == first) {
                    set |= 1 << i;
                }
            }
            return set;
        }

        boolean meetsAllWishes(int kinds) {
            for (int lodger = 0; lodger < LODGERS; lodger++) {
                if (wishes[lodger] != 0 && (wishes[lodger] & kinds) == 0) {
                    return false;
                }
            }
            return true;
        }
    }

    /** What was typed, and the reading of it as a TEXT. */
    private static final class Tape {
        static final int LENGTH = 80, DRAFTS = 8, WORD = 8;
        static final int BLANK = 32, LAST_SIGN = 126, END = -1;
        static final int FAULT = -20;

        final int[] bytes = new int[LENGTH];
        int length;
        int place;
        final Sock[] drafts = new Sock[DRAFTS];

        Tape() {
            for (int i = 0; i < DRAFTS; i++) {
                drafts[i] = new Sock();
            }
        }

        int append(long word, int n) {
            if (n < 1 || n > WORD) {
                return BAD;
            }
            for (int i = 0; i < n; i++) {
                int sign = byteOf(word, i);
                if (sign < BLANK || sign > LAST_SIGN) {
                    return BAD;
                }
            }
            if (length + n > LENGTH) {
                return FULL;
            }
            for (int i = n - 1; i >= 0; i--) {
                bytes[length] = byteOf(word, i);
                length++;
            }
            return length;
        }

        private static int byteOf(long word, int i) {
            return (int) (word >>> 8 * i & 255);
        }

        /** How many drafts were read, or a FAULT. */
        int read() {
            place = 0;
            for (int i = 0; i < DRAFTS; i++) {
                int fault = readSock(drafts[i]);
                if (fault != FINE) {
                    return fault;
                }
                int sign = nextSign();
                if (sign == END) {
                    return i + 1;
                }
                if (sign != ',' || i == DRAFTS - 1) {
                    break;
                }
                place++;
            }
            return FAULT - place;
        }

        private int readSock(Sock into) {
            int kind = readKind();
            if (kind < 0) {
                return kind;
            }
            int hand = readHand();
            if (hand < 0) {
                return hand;
            }
            int low = readNumber(0);
            if (low < 0) {
                return low;
            }
            int high = skipSign('-') ? readNumber(low) : low;
            if (high < 0) {
                return high;
            }
            int lodgers = skipSign(':') ? readLodgers() : ALL_LODGERS;
            if (lodgers < 0) {
                return lodgers;
            }
            into.begin(kind, hand, low, high, lodgers);
            return FINE;
        }

        private int nextSign() {
            while (place < length && bytes[place] == BLANK) {
                place++;
            }
            return place < length ? bytes[place] : END;
        }

        private boolean skipSign(int sign) {
            if (nextSign() != sign) {
                return false;
            }
            place++;
            return true;
        }

        private int readKind() {
            int sign = nextSign();
            if (sign < 'a' || sign > 'f') {
                return FAULT - place;
            }
            place++;
            return sign - 'a';
        }

        private int readHand() {
            if (skipSign('l')) {
                return LEFT;
            }
            return skipSign('r') ? RIGHT : FAULT - place;
        }

        private int readNumber(int least) {
            int sign = nextSign();
            int first = place;
            int number = sign >= '0' && sign <= '9' ? 0 : -1;
            while (place < length && bytes[place] >= '0' && bytes[place] <= '9') {
                // Kept just above the top, so that no row of digits is too long for an int.
                number = Math.min(TOP_TONE + 1, number * 10 + bytes[place] - '0');
                place++;
            }
            return number < least || number > TOP_TONE ? FAULT - first : number;
        }

        private int readLodgers() {
            int lodgers = 0;
            for (int i = 0; i <= LODGERS; i++) {
                int sign = nextSign();
                if (sign < 'x' || sign > 'z') {
                    break;
                }
                int bit = 1 << (sign - 'x');
                if (bit <= lodgers) {
                    return FAULT - place;
                }
                lodgers |= bit;
                place++;
            }
            return lodgers == 0 ? FAULT - place : lodgers;
        }
    }

    /** THE PAIRS of a house. */
    private static final class Pairing {
        // One pair gains this less its distance: six distances together (198 each at most) are less.
        static final int PAIR = 2000;
        static final int UNKNOWN = -1;

        final int[] gains = new int[SOCKS * SOCKS];
        final int[] known = new int[1 << SOCKS];
        final int[] partner = new int[SOCKS];
        int made;
        int distance;

        void make(House house) {
            int box = house.placed(BOX);
            weigh(house, box);
            for (int set = 0; set < 1 << house.size; set++) {
                known[set] = UNKNOWN;
            }
            trace(house, box);
        }

        private void weigh(House house, int box) {
            for (int a = 0; a < house.size; a++) {
                for (int b = a + 1; b < house.size; b++) {
                    boolean free = (box >> a & box >> b & 1) == 1;
                    gains[a * SOCKS + b] = free && house.bars(a, b) == 0 ? PAIR - house.distance(a, b) : 0;
                }
            }
        }

        /** The most that socks from this one on, as far as they are free, can gain. */
        private static int mostGain(int sock, int free, int size, int[] gains, int[] known) {
            if (sock >= size) {
                return 0;
            }
            int rest = free & ~(1 << sock);
            if (rest == free) {
                return mostGain(sock + 1, free, size, gains, known);
            }
            if (known[free] != UNKNOWN) {
                return known[free];
            }
            int most = mostGain(sock + 1, rest, size, gains, known);
            for (int other = sock + 1; other < size; other++) {
                int gain = gains[sock * SOCKS + other];
                if (gain > 0 && (rest >> other & 1) == 1) {
                    most = Math.max(most, gain + mostGain(sock + 1, rest & ~(1 << other), size, gains, known));
                }
            }
            known[free] = most;
            return most;
        }

        /** Each sock in turn takes the first fellow by which the most can still be gained. */
        private void trace(House house, int box) {
            made = 0;
            distance = 0;
            for (int sock = 0; sock < SOCKS; sock++) {
                partner[sock] = NONE;
            }
            int free = box;
            for (int sock = 0; sock < house.size; sock++) {
                int other = firstFellow(sock, free, house.size);
                free &= ~(1 << sock);
                if (other != NONE) {
                    free &= ~(1 << other);
                    partner[sock] = other;
                    partner[other] = sock;
                    made++;
                    distance += house.distance(sock, other);
                }
            }
        }

        private int firstFellow(int sock, int free, int size) {
            int rest = free & ~(1 << sock);
            if (rest == free) {
                return NONE;
            }
            int most = mostGain(sock, free, size, gains, known);
            for (int other = sock + 1; other < size; other++) {
                int gain = gains[sock * SOCKS + other];
                if (gain > 0 && (rest >> other & 1) == 1
                        && gain + mostGain(sock + 1, rest & ~(1 << other), size, gains, known) == most) {
                    return other;
                }
            }
            return NONE;
        }
    }

    /** How long a SINGLE is worth keeping. */
    private static final class Weeks {
        final int[] chances = new int[WEEKS];
        // Over 12 to the number of weeks from the week on, so that all stays whole.
        final long[] above = new long[WEEKS + 1];
        long below = 1;
        int n;

        boolean takeChances(Sheet row, int from, int howMany) {
            n = howMany;
            for (int week = 0; week < n; week++) {
                chances[week] = row.items[from + week];
                if (!within(chances[week], TWELFTHS + 1)) {
                    return false;
                }
            }
            return true;
        }

        void reckon(int value, int cost) {
            above[n] = 0;
            below = 1;
            for (int week = n - 1; week >= 0; week--) {
                long met = below * value * chances[week];
                long later = above[week + 1] * (TWELFTHS - chances[week]);
                below *= TWELFTHS;
                above[week] = Math.max(0, met + later - below * cost);
            }
        }

        int firstWorthless() {
            for (int week = 0; week < n; week++) {
                if (above[week] == 0) {
                    return week;
                }
            }
            return NONE;
        }
    }

    /** Draws in the dark. */
    private static final class Dark {
        // For each number of draws: how many sets of so many have no pair.
        final long[] pairless = new long[SOCKS + 1];
        int box;

        void lay(House house) {
            int set = house.placed(BOX);
            int lefts = house.having(Sock.HAND, LEFT);
            box = Integer.bitCount(set);
            for (int d = 0; d <= SOCKS; d++) {
                pairless[d] = d == 0 ? 1 : 0;
            }
            for (int kind = 0; kind < KINDS; kind++) {
                int some = set & house.having(Sock.KIND, kind);
                int left = Integer.bitCount(some & lefts);
                addKind(left, Integer.bitCount(some) - left, house.handed == 1);
            }
        }

        private void addKind(int left, int right, boolean handed) {
            // From many draws down, so that each kind counts once.
            for (int d = box; d >= 1; d--) {
                for (int j = 1; j <= d; j++) {
                    pairless[d] += pairless[d - j] * setsWithoutPair(left, right, handed, j);
                }
            }
        }

        private static long setsWithoutPair(int left, int right, boolean handed, int j) {
            if (handed) {
                return choose(left, j) + choose(right, j);
            }
            return j == 1 ? left + right : 0;
        }

        int longestPairless() {
            int longest = 0;
            for (int d = 1; d <= box; d++) {
                if (pairless[d] > 0) {
                    longest = d;
                }
            }
            return longest;
        }
    }

    /** Whose the socks may be by told counts. */
    private static final class Owning {
        static final int SIDE = SOCKS + 1;

        // For counts of the first and of the second lodger (the third has the rest): ways so far.
        final long[] grid = new long[SIDE * SIDE];

        /** WAYS in which one sock (NONE: no sock) is that of one of these lodgers. */
        long waysIf(House house, int sock, int lodgers) {
            long ways = 1;
            for (int kind = 0; kind < KINDS && ways > 0; kind++) {
                int count = dealKind(house, kind, sock, lodgers);
                ways *= sumAsTold(house, kind, count);
            }
            return ways;
        }

        private int dealKind(House house, int kind, int sock, int lodgers) {
            for (int i = 0; i < SIDE * SIDE; i++) {
                grid[i] = i == 0 ? 1 : 0;
            }
            int dealt = 0;
            int some = house.having(Sock.KIND, kind);
            for (int first = 0; first < house.size; first++) {
                int bound = some & house.boundTo(first);
                if (bound != 0) {
                    dealt += Integer.bitCount(bound);
                    deal(Integer.bitCount(bound), ownersOf(house, bound, sock, lodgers), dealt);
                }
            }
            return dealt;
        }

        private static int ownersOf(House house, int bound, int sock, int lodgers) {
            int owners = ALL_LODGERS;
            for (int i = 0; i < house.size; i++) {
                if ((bound >> i & 1) == 1) {
                    owners &= i == sock ? house.socks[i].lodgers & lodgers : house.socks[i].lodgers;
                }
            }
            return owners;
        }

        private void deal(int bound, int owners, int dealt) {
            // From high counts down, so that what is read has not been dealt these socks yet.
            for (int one = dealt; one >= 0; one--) {
                for (int two = dealt - one; two >= 0; two--) {
                    long ways = (owners & 4) != 0 ? grid[one * SIDE + two] : 0;
                    if ((owners & 1) != 0 && one >= bound) {
                        ways += grid[(one - bound) * SIDE + two];
                    }
                    if ((owners & 2) != 0 && two >= bound) {
                        ways += grid[one * SIDE + two - bound];
                    }
                    grid[one * SIDE + two] = ways;
                }
            }
        }

        private long sumAsTold(House house, int kind, int count) {
            long sum = 0;
            for (int one = 0; one <= count; one++) {
                for (int two = 0; two <= count - one; two++) {
                    if (isAsTold(house, kind, one) && isAsTold(house, KINDS + kind, two)
                            && isAsTold(house, 2 * KINDS + kind, count - one - two)) {
                        sum += grid[one * SIDE + two];
                    }
                }
            }
            return sum;
        }

        private static boolean isAsTold(House house, int at, int owned) {
            return owned >= house.least[at] && owned <= house.most[at];
        }
    }

    /** MARKS, each question searched once, since it comes again for each owner. */
    private static final class Threads {
        static final int OWNERS = 5, LOSSES = 4, MOST_THREADS = 6, ROWS = 64;

        // For each question: the fewest threads, NONE, or 0 as long as it has not been asked.
        final int[] answers = new int[OWNERS * LOSSES];
        final int[] rows = new int[OWNERS * LOSSES * OWNERS];
        final int[] row = new int[OWNERS];
        // For each mark the set of higher ones that can't become like it.
        final long[] apart = new long[ROWS];

        int fewest(int m, int t) {
            int at = (m - 1) * LOSSES + t;
            if (answers[at] == 0) {
                answers[at] = search(m, t);
                System.arraycopy(row, 0, rows, at * OWNERS, m);
            }
            return answers[at];
        }

        int markOf(int m, int t, int i) {
            return rows[((m - 1) * LOSSES + t) * OWNERS + i];
        }

        private int search(int m, int t) {
            for (int n = 1; n <= MOST_THREADS; n++) {
                int all = 1 << n;
                compare(all, t);
                // A shift by 64 would be one by 0, therefore all ones are moved down instead.
                if (extend(0, m, -1L >>> ROWS - all, apart, row)) {
                    return n;
                }
            }
            return NONE;
        }

        private void compare(int all, int t) {
            for (int a = 0; a < all; a++) {
                apart[a] = 0;
                for (int b = a + 1; b < all; b++) {
                    if (Math.max(Integer.bitCount(a & ~b), Integer.bitCount(b & ~a)) > t) {
                        apart[a] |= 1L << b;
                    }
                }
            }
        }

        private static boolean extend(int placed, int m, long candidates, long[] apart, int[] row) {
            if (placed >= m) {
                return true;
            }
            if (Long.bitCount(candidates) < m - placed) {
                return false;
            }
            for (int mark = 0; mark < ROWS; mark++) {
                if ((candidates >>> mark & 1) == 1) {
                    row[placed] = mark;
                    if (extend(placed + 1, m, candidates & apart[mark], apart, row)) {
                        return true;
                    }
                }
            }
            return false;
        }
    }

    /** A row of a LANE, or nothing. */
    private static final class Sheet {
        static final int NOTHING = -1, BYTES = 0, SHORTS = 1;

        final int[] items = new int[ITEMS];
        int lane = NOTHING;
        int length;

        boolean isThere() {
            return lane != NOTHING;
        }

        void renew(int newLane, int n) {
            lane = newLane;
            length = n;
            for (int i = 0; i < ITEMS; i++) {
                items[i] = 0;
            }
        }

        int refusal(int asLane, int from, int n) {
            if (!isThere()) {
                return NULL;
            }
            if (lane != asLane) {
                return CAST;
            }
            return from < 0 || from > length - n ? INDEX : FINE;
        }

        void put(int i, int v) {
            if (lane == BYTES) {
                items[i] = (byte) v;
            } else if (lane == SHORTS) {
                items[i] = (short) v;
            } else {
                items[i] = v;
            }
        }
    }
}
