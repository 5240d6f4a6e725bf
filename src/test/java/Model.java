import java.math.BigInteger;
import java.util.ArrayList;
import java.util.List;

/**
 * The document once more, told as slowly and as literally as can be (all sets, all owners, all
 * pairings are gone through), so that RandomRunTest can hold the class against it.
 */
final class Model {
    static final int BAD = -1, NOT = -2, FULL = -3, NONE = -4, NULL = -11, CAST = -12, INDEX = -13, SIZE = -14;

    static final class S implements Cloneable {
        int kind, hand, low, high, where, other = -1, since = -1, may = 7;

        S copy() {
            S s = new S();
            s.kind = kind;
            s.hand = hand;
            s.low = low;
            s.high = high;
            s.where = where;
            s.other = other;
            s.since = since;
            s.may = may;
            return s;
        }
    }

    static final class M {
        boolean[] went, lost;
        int there;
    }

    static final class State {
        List<S> socks = new ArrayList<>();
        List<M> mondays = new ArrayList<>();
        int[] fade = new int[6];
        int likeness = 5, handed = 0;
        int[][] least = new int[3][6], most = new int[3][6];
        int[] wish = new int[3];
        List<int[]> bonds = new ArrayList<>();

        State copy() {
            State c = new State();
            for (S s : socks) c.socks.add(s.copy());
            c.mondays.addAll(mondays);
            c.fade = fade.clone();
            c.likeness = likeness;
            c.handed = handed;
            for (int i = 0; i < 3; i++) {
                c.least[i] = least[i].clone();
                c.most[i] = most[i].clone();
            }
            c.wish = wish.clone();
            c.bonds.addAll(bonds);
            return c;
        }
    }

    State st = new State();
    State img = null;
    String tape = "";
    final Object[] sheets = new Object[4];

    Model() {
        for (int[] row : st.most) java.util.Arrays.fill(row, 12);
    }

    boolean ok(int s) {
        return s >= 0 && s < st.socks.size();
    }

    int sock(int kind, int hand, int low, int high) {
        if (kind < 0 || kind > 5 || hand < 0 || hand > 1 || low < 0 || low > 99 || high < 0 || high > 99 || low > high) return BAD;
        if (st.socks.size() == 12) return FULL;
        S s = new S();
        s.kind = kind;
        s.hand = hand;
        s.low = low;
        s.high = high;
        st.socks.add(s);
        return st.socks.size() - 1;
    }

    int type(long w, int n) {
        if (n < 1 || n > 8) return BAD;
        StringBuilder b = new StringBuilder();
        for (int i = n - 1; i >= 0; i--) {
            int c = (int) (w >> (8 * i)) & 0xff;
            if (c < 32 || c > 126) return BAD;
            b.append((char) c);
        }
        if (tape.length() + n > 80) return FULL;
        tape += b;
        return tape.length();
    }

    int socks() {
        String text = tape;
        tape = "";
        List<S> read = new ArrayList<>();
        int fault = new Text(text, read).fault();
        if (fault >= 0) return -20 - fault;
        if (st.socks.size() + read.size() > 12) return FULL;
        st.socks.addAll(read);
        return read.size();
    }

    /** A machine that goes byte by byte and knows in each state what can stand there. */
    static final class Text {
        final String text;
        final List<S> into;

        Text(String text, List<S> into) {
            this.text = text;
            this.into = into;
        }

        /** The place of the first byte that can't stand there, -1 if there is none. */
        int fault() {
            S s = new S();
            String state = "kind";
            int first = -1;
            for (int i = 0; i <= text.length(); i++) {
                char c = i == text.length() ? (char) 0 : text.charAt(i);
                boolean digit = c >= '0' && c <= '9';
                if (state.equals("low..") && !digit) {
                    if (!take(s, first, i, true)) return first;
                    state = "after low";
                } else if (state.equals("high..") && !digit) {
                    if (!take(s, first, i, false)) return first;
                    state = "after high";
                }
                if (c == ' ') continue;
                switch (state) {
                    case "kind":
                        if ("abcdef".indexOf(c) < 0) return i;
                        s = new S();
                        s.kind = c - 'a';
                        state = "hand";
                        break;
                    case "hand":
                        if (c != 'l' && c != 'r') return i;
                        s.hand = c == 'l' ? 0 : 1;
                        state = "low";
                        break;
                    case "low":
                    case "high":
                        if (!digit) return i;
                        first = i;
                        state = state + "..";
                        break;
                    case "low..":
                    case "high..":
                        break;
                    case "lodger":
                        if (c != 'x' && c != 'y' && c != 'z') return i;
                        s.may = 1 << (c - 'x');
                        state = "lodgers";
                        break;
                    default:
                        if (c == '-' && state.equals("after low")) {
                            state = "high";
                        } else if (c == ':' && !state.equals("lodgers")) {
                            state = "lodger";
                        } else if ("xyz".indexOf(c) >= 0 && state.equals("lodgers")) {
                            int l = c - 'x';
                            for (int m = l; m < 3; m++) if ((s.may >> m & 1) == 1) return i;
                            s.may |= 1 << l;
                        } else if (c == 0) {
                            into.add(s);
                        } else if (c == ',' && into.size() < 7) {
                            into.add(s);
                            state = "kind";
                        } else {
                            return i;
                        }
                }
            }
            return -1;
        }

        private boolean take(S s, int first, int end, boolean low) {
            BigInteger v = new BigInteger(text.substring(first, end));
            if (v.compareTo(BigInteger.valueOf(99)) > 0) return false;
            if (low) {
                s.low = v.intValue();
            } else if (v.intValue() < s.low) {
                return false;
            }
            s.high = v.intValue();
            return true;
        }
    }

    int told(int sock, int what) {
        if (!ok(sock) || what < 0 || what > 7) return BAD;
        S s = st.socks.get(sock);
        if (what == 0) return s.kind;
        if (what == 1) return s.hand;
        if (what == 2) return s.low;
        if (what == 3) return s.high;
        if (what == 4) return s.where;
        if (what == 5) return s.where == 2 ? s.other : NONE;
        if (what == 7) return s.where == 1 ? s.since : NONE;
        int n = 0;
        for (M m : st.mondays) if (sock < m.there && m.went[sock]) n++;
        return n;
    }

    int fade(int kind, int v) {
        if (kind < 0 || kind > 5 || v < 0 || v > 9) return BAD;
        int was = st.fade[kind];
        st.fade[kind] = v;
        return was;
    }

    int set(int what, int v) {
        if (what < 0 || what > 1 || v < 0 || v > (what == 0 ? 20 : 1)) return BAD;
        int was = what == 0 ? st.likeness : st.handed;
        if (what == 0) st.likeness = v;
        else st.handed = v;
        return was;
    }

    int monday(int went, int back) {
        for (int i = 0; i < 32; i++) {
            boolean w = (went >>> i & 1) == 1, b = (back >>> i & 1) == 1;
            if ((w || b) && i >= st.socks.size()) return BAD;
            if (b && !w) return BAD;
        }
        for (int i = 0; i < st.socks.size(); i++) {
            S s = st.socks.get(i);
            boolean w = (went >>> i & 1) == 1;
            if (w && s.where == 1) return NOT;
            if (w && s.where == 2 && (went >>> s.other & 1) == 0) return NOT;
        }
        if (st.mondays.size() == 12) return FULL;
        M m = new M();
        m.there = st.socks.size();
        m.went = new boolean[m.there];
        m.lost = new boolean[m.there];
        for (int i = 0; i < m.there; i++) {
            m.went[i] = (went >>> i & 1) == 1;
            m.lost[i] = st.socks.get(i).where == 1;
        }
        int losses = 0;
        for (int i = 0; i < m.there; i++) {
            S s = st.socks.get(i);
            if (!m.went[i]) continue;
            s.low = Math.min(99, s.low + st.fade[s.kind]);
            s.high = Math.min(99, s.high + st.fade[s.kind]);
            if ((back >>> i & 1) == 1) continue;
            losses++;
            if (s.where == 2) st.socks.get(s.other).where = 0;
            s.where = 1;
            s.since = st.mondays.size();
        }
        st.mondays.add(m);
        return losses;
    }

    int found(int sock) {
        if (!ok(sock)) return BAD;
        S s = st.socks.get(sock);
        if (s.where != 1) return NOT;
        s.where = 0;
        return s.since;
    }

    int alike(int a, int b) {
        if (!ok(a) || !ok(b) || a == b) return BAD;
        S s = st.socks.get(a), t = st.socks.get(b);
        boolean all = true, some = false;
        for (int x = s.low; x <= s.high; x++) {
            for (int y = t.low; y <= t.high; y++) {
                boolean near = Math.abs(x - y) <= st.likeness;
                all &= near;
                some |= near;
            }
        }
        return all ? 2 : some ? 1 : 0;
    }

    int fellows(int a, int b) {
        if (!ok(a) || !ok(b) || a == b) return BAD;
        S s = st.socks.get(a), t = st.socks.get(b);
        int bars = 0;
        if (s.kind != t.kind) bars += 1;
        if (st.handed == 1 && s.hand == t.hand) bars += 2;
        if (alike(a, b) == 0) bars += 4;
        boolean parted = false;
        for (M m : st.mondays) {
            if (a >= m.there || b >= m.there) continue;
            if (m.went[a] && !m.went[b] && !m.lost[b]) parted = true;
            if (m.went[b] && !m.went[a] && !m.lost[a]) parted = true;
        }
        return bars + (parted ? 8 : 0);
    }

    int count(int what) {
        if (what < 0 || what > 5) return BAD;
        if (what == 0) return st.socks.size();
        if (what == 4) return st.mondays.size();
        int n = 0;
        for (S s : st.socks) {
            if (what == 5 ? s.where == 1 && s.hand == 0 : s.where == what - 1) n++;
        }
        return n;
    }

    // The pairs: all pairings are gone through, in no clever order, and the best one is kept.
    private int[] best;
    private int bestPairs, bestSum;

    private void allPairings(int from, int[] row, int pairs, int sum) {
        int n = st.socks.size();
        int i = from;
        while (i < n && (st.socks.get(i).where != 0 || row[i] != 99)) i++;
        if (i == n) {
            boolean better = best == null || pairs > bestPairs || pairs == bestPairs && sum < bestSum;
            if (!better && pairs == bestPairs && sum == bestSum) better = java.util.Arrays.compare(row, best) < 0;
            if (better) {
                best = row.clone();
                bestPairs = pairs;
                bestSum = sum;
            }
            return;
        }
        allPairings(i + 1, row, pairs, sum);
        for (int j = i + 1; j < n; j++) {
            if (st.socks.get(j).where != 0 || row[j] != 99 || bars[i][j] != 0) continue;
            S s = st.socks.get(i), t = st.socks.get(j);
            row[i] = j;
            row[j] = i;
            allPairings(i + 1, row, pairs + 1, sum + Math.abs(s.low + s.high - (t.low + t.high)));
            row[i] = 99;
            row[j] = 99;
        }
    }

    private int[][] bars;

    private void thePairs() {
        int n = st.socks.size();
        bars = new int[n][n];
        for (int i = 0; i < n; i++) for (int j = 0; j < n; j++) bars[i][j] = i == j ? 99 : fellows(i, j);
        int[] row = new int[n];
        java.util.Arrays.fill(row, 99);
        best = null;
        allPairings(0, row, 0, 0);
    }

    int pairs(int what) {
        if (what != 0 && what != 1) return BAD;
        thePairs();
        return what == 0 ? bestPairs : bestSum;
    }

    int fellow(int sock) {
        if (!ok(sock)) return BAD;
        thePairs();
        return best[sock] == 99 ? NONE : best[sock];
    }

    int pairUp() {
        thePairs();
        for (int i = 0; i < best.length; i++) {
            if (best[i] == 99) continue;
            st.socks.get(i).where = 2;
            st.socks.get(i).other = best[i];
        }
        return bestPairs;
    }

    int part(int sock) {
        if (!ok(sock)) return BAD;
        S s = st.socks.get(sock);
        if (s.where != 2) return NOT;
        s.where = 0;
        st.socks.get(s.other).where = 0;
        return s.other;
    }

    private static int lengthOf(Object row) {
        return java.lang.reflect.Array.getLength(row);
    }

    /** What the machine finds, or the items. */
    private int[] taken = null;

    private int take(int sheet, int lane, int from, int n) {
        Object row = sheets[sheet];
        if (row == null) return NULL;
        Class<?> want = lane == 0 ? byte[].class : lane == 1 ? short[].class : int[].class;
        if (row.getClass() != want) return CAST;
        if (from < 0 || (long) from + n > lengthOf(row)) return INDEX;
        taken = new int[n];
        for (int i = 0; i < n; i++) taken[i] = java.lang.reflect.Array.getInt(row, from + i);
        return 0;
    }

    int judge(int sheet, int lane, int from) {
        if (sheet < 0 || sheet > 3 || lane < 0 || lane > 2) return BAD;
        int n = st.socks.size();
        int r = take(sheet, lane, from, n);
        if (r != 0) return r;
        for (int i = 0; i < n; i++) {
            int f = taken[i];
            if (f == -1) continue;
            if (st.socks.get(i).where != 0) return i;
            if (!ok(f) || st.socks.get(f).where != 0) return i;
            if (taken[f] != i) return i;
            if (f == i || fellows(i, f) != 0) return i;
        }
        return NONE;
    }

    private BigInteger[][] worths;

    private int weeks(int sheet, int lane, int from, int n, int v, int c) {
        if (sheet < 0 || sheet > 3 || lane < 0 || lane > 2 || n < 1 || n > 8 || v < 0 || v > 999 || c < 0 || c > 99) return BAD;
        int r = take(sheet, lane, from, n);
        if (r != 0) return r;
        for (int p : taken) if (p < 0 || p > 12) return NOT;
        worths = new BigInteger[n + 1][];
        worths[n] = new BigInteger[] {BigInteger.ZERO, BigInteger.ONE};
        for (int k = n - 1; k >= 0; k--) {
            BigInteger below = worths[k + 1][1].multiply(BigInteger.valueOf(12));
            BigInteger above = below.multiply(BigInteger.valueOf(-c));
            above = above.add(worths[k + 1][1].multiply(BigInteger.valueOf((long) v * taken[k])));
            above = above.add(worths[k + 1][0].multiply(BigInteger.valueOf(12 - taken[k])));
            if (above.signum() <= 0) above = BigInteger.ZERO;
            BigInteger g = above.gcd(below);
            worths[k] = new BigInteger[] {above.divide(g), below.divide(g)};
        }
        return 0;
    }

    int thrown(int sheet, int lane, int from, int n, int v, int c) {
        int r = weeks(sheet, lane, from, n, v, c);
        if (r != 0) return r;
        for (int k = 0; k < n; k++) if (worths[k][0].signum() == 0) return k;
        return NONE;
    }

    long worth(int sheet, int lane, int from, int n, int v, int c, int what) {
        if (what != 0 && what != 1) return BAD;
        int r = weeks(sheet, lane, from, n, v, c);
        return r != 0 ? r : worths[0][what].longValueExact();
    }

    private boolean hasPair(int set) {
        for (int i = 0; i < st.socks.size(); i++) {
            for (int j = i + 1; j < st.socks.size(); j++) {
                if ((set >> i & 1) == 0 || (set >> j & 1) == 0) continue;
                S s = st.socks.get(i), t = st.socks.get(j);
                if (s.kind == t.kind && (st.handed == 0 || s.hand != t.hand)) return true;
            }
        }
        return false;
    }

    private int box() {
        int set = 0;
        for (int i = 0; i < st.socks.size(); i++) if (st.socks.get(i).where == 0) set |= 1 << i;
        return set;
    }

    int worst() {
        int box = box();
        for (int d = 0; d <= Integer.bitCount(box); d++) {
            boolean surely = true;
            for (int set = 0; set < 4096 && surely; set++) {
                if ((set & ~box) == 0 && Integer.bitCount(set) == d && !hasPair(set)) surely = false;
            }
            if (surely) return d;
        }
        return NONE;
    }

    private static int lowest(int above, int below, int what) {
        int g = BigInteger.valueOf(above).gcd(BigInteger.valueOf(below)).intValue();
        return what == 0 ? above / g : below / g;
    }

    int odds(int d, int what) {
        if (d < 0 || d > 12 || what < 0 || what > 1) return BAD;
        int box = box();
        if (Integer.bitCount(box) < d) return NOT;
        int above = 0, below = 0;
        for (int set = 0; set < 4096; set++) {
            if ((set & ~box) != 0 || Integer.bitCount(set) != d) continue;
            below++;
            if (hasPair(set)) above++;
        }
        return lowest(above, below, what);
    }

    int owns(int lodger, int kind, int least, int most) {
        if (lodger < 0 || lodger > 2 || kind < 0 || kind > 5 || least < 0 || least > 12 || most < 0 || most > 12 || least > most) return BAD;
        int was = st.least[lodger][kind] + 16 * st.most[lodger][kind];
        st.least[lodger][kind] = least;
        st.most[lodger][kind] = most;
        return was;
    }

    int may(int sock, int lodgers) {
        if (!ok(sock) || lodgers < 1 || lodgers > 7) return BAD;
        int was = st.socks.get(sock).may;
        st.socks.get(sock).may = lodgers;
        return was;
    }

    private boolean reach(int a, int b, boolean[] seen) {
        if (a == b) return true;
        seen[a] = true;
        for (int[] e : st.bonds) {
            for (int k = 0; k < 2; k++) {
                if (e[k] == a && !seen[e[1 - k]] && reach(e[1 - k], b, seen)) return true;
            }
        }
        return false;
    }

    int bind(int a, int b) {
        if (!ok(a) || !ok(b) || a == b) return BAD;
        if (st.socks.get(a).kind != st.socks.get(b).kind) return NOT;
        if (reach(a, b, new boolean[12])) return NONE;
        st.bonds.add(new int[] {a, b});
        return 1;
    }

    private long waysFound;
    private int[] whoseFound;

    private void allOwners(int i, int[] owner) {
        int n = st.socks.size();
        if (i < n) {
            for (int l = 0; l < 3; l++) {
                if ((st.socks.get(i).may >> l & 1) == 0) continue;
                owner[i] = l;
                boolean fits = true;
                for (int[] e : st.bonds) {
                    if (e[0] <= i && e[1] <= i && owner[e[0]] != owner[e[1]]) fits = false;
                }
                if (fits) allOwners(i + 1, owner);
            }
            return;
        }
        int[][] has = new int[3][6];
        for (int s = 0; s < n; s++) has[owner[s]][st.socks.get(s).kind]++;
        for (int l = 0; l < 3; l++) {
            for (int k = 0; k < 6; k++) {
                if (has[l][k] < st.least[l][k] || has[l][k] > st.most[l][k]) return;
            }
        }
        waysFound++;
        for (int s = 0; s < n; s++) whoseFound[s] |= 1 << owner[s];
    }

    private void goThroughOwners() {
        waysFound = 0;
        whoseFound = new int[12];
        allOwners(0, new int[12]);
    }

    long ways() {
        goThroughOwners();
        return waysFound;
    }

    int whose(int sock) {
        if (!ok(sock)) return BAD;
        goThroughOwners();
        return waysFound == 0 ? NONE : whoseFound[sock];
    }

    int seldom(int what) {
        if (what < 0 || what > 1) return BAD;
        int n = st.socks.size(), lost = 0, left = 0, leftLost = 0;
        for (int i = 0; i < n; i++) {
            if (st.socks.get(i).hand == 0) left |= 1 << i;
            if (st.socks.get(i).where != 1) continue;
            lost++;
            if (st.socks.get(i).hand == 0) leftLost++;
        }
        if (lost == 0) return NOT;
        int above = 0, below = 0;
        for (int set = 0; set < 1 << n; set++) {
            if (Integer.bitCount(set) != lost) continue;
            below++;
            if (Integer.bitCount(set & left) >= leftLost) above++;
        }
        return lowest(above, below, what);
    }

    int lacks(int kind, int what) {
        if (kind < 0 || kind > 5 || what < 0 || what > 1) return -1001;
        int more = 0;
        for (S s : st.socks) {
            if (s.kind == kind && (s.where == 1) == (what == 0)) more += s.hand == 0 ? 1 : -1;
        }
        return more;
    }

    int wish(int lodger, int kinds) {
        if (lodger < 0 || lodger > 2 || kinds < 0 || kinds > 63) return BAD;
        int was = st.wish[lodger];
        st.wish[lodger] = kinds;
        return was;
    }

    int buy() {
        for (int size = 0; size <= 6; size++) {
            for (int set = 0; set < 64; set++) {
                if (Integer.bitCount(set) != size) continue;
                boolean all = true;
                for (int w : st.wish) if (w != 0 && (w & set) == 0) all = false;
                if (all) return set;
            }
        }
        return -99;
    }

    private static boolean canBecomeAlike(int a, int b, int t) {
        for (int c = 0; c < 64; c++) {
            if ((c & ~a) != 0 || (c & ~b) != 0) continue;
            if (Integer.bitCount(a) - Integer.bitCount(c) <= t && Integer.bitCount(b) - Integer.bitCount(c) <= t) return true;
        }
        return false;
    }

    private static boolean firstRow(int[] row, int k, int n, int t) {
        if (k == row.length) return true;
        for (int x = k == 0 ? 0 : row[k - 1] + 1; x < 1 << n; x++) {
            boolean holds = true;
            for (int j = 0; j < k && holds; j++) holds = !canBecomeAlike(row[j], x, t);
            row[k] = x;
            if (holds && firstRow(row, k + 1, n, t)) return true;
        }
        return false;
    }

    private static final int[][][] MARKS = new int[6][4][];

    int marks(int m, int t, int i) {
        if (m < 1 || m > 5 || t < 0 || t > 3 || i < -1 || i >= m) return BAD;
        if (MARKS[m][t] == null) {
            int[] row = new int[m];
            int n = 1;
            while (n <= 6 && !firstRow(row, 0, n, t)) n++;
            MARKS[m][t] = new int[m + 1];
            MARKS[m][t][0] = n;
            System.arraycopy(row, 0, MARKS[m][t], 1, m);
        }
        return MARKS[m][t][0] > 6 ? NONE : MARKS[m][t][i + 1];
    }

    int image() {
        img = st.copy();
        return 1;
    }

    int restore() {
        if (img == null) return NONE;
        st = img.copy();
        return 1;
    }

    int sheet(int sheet, int lane, int n) {
        if (sheet < 0 || sheet > 3 || lane < 0 || lane > 2 || n > 16) return BAD;
        if (n < 0) return SIZE;
        sheets[sheet] = lane == 0 ? new byte[n] : lane == 1 ? new short[n] : new int[n];
        return n;
    }

    int drop(int sheet) {
        if (sheet < 0 || sheet > 3) return BAD;
        if (sheets[sheet] == null) return NULL;
        int n = lengthOf(sheets[sheet]);
        sheets[sheet] = null;
        return n;
    }

    int item(int sheet, int lane, int i, int v) {
        if (sheet < 0 || sheet > 3 || lane < 0 || lane > 2) return BAD;
        int r = take(sheet, lane, i, 1);
        if (r != 0) return r;
        if (lane == 0) ((byte[]) sheets[sheet])[i] = (byte) v;
        if (lane == 1) ((short[]) sheets[sheet])[i] = (short) v;
        if (lane == 2) ((int[]) sheets[sheet])[i] = v;
        return 1;
    }
}
