import java.util.ArrayList;
import java.util.Collections;
import java.util.List;
import java.util.Random;

/** Long runs of drawn calls, ordinary and odd ones, each answer held against the slow model. */
public final class RandomRunTest {
    private static final int RUNS = Integer.getInteger("runs", 300);
    private static final int CALLS = 300;
    private static final long SEED = Long.getLong("seed", 20261118L);
    private static final String[] OPS = {
        "sock", "type", "socks", "told", "fade", "set", "monday", "found", "alike", "fellows", "count",
        "pairs", "fellow", "pairUp", "part", "judge", "thrown", "worth", "worst", "odds",
        "owns", "may", "bind", "ways", "whose", "seldom", "lacks", "wish", "buy", "marks", "image", "restore",
        "sheet", "drop", "item"};

    private final Random random;
    private OneOfEach x = new OneOfEach();
    private Model m = new Model();
    private final int kinds;
    private final int mostSocks;
    private final List<String> log = new ArrayList<>();

    private RandomRunTest(long seed) {
        random = new Random(seed);
        kinds = 1 + random.nextInt(6);
        // Few lodgers' choices are left to be gone through slowly when there are many socks.
        mostSocks = random.nextInt(4) == 0 ? 12 : 4 + random.nextInt(6);
    }

    public static void main(String[] args) {
        Check check = new Check("random runs");
        for (int run = 0; run < RUNS && check.wrong() == 0; run++) {
            new RandomRunTest(SEED + run).go(check, run);
        }
        check.end();
    }

    private void go(Check check, int run) {
        for (int i = 0; i < CALLS; i++) {
            String op = OPS[random.nextInt(OPS.length)];
            if (i < 12 && random.nextInt(3) > 0) op = random.nextBoolean() ? "sock" : "text";
            if (op.equals("socks") && random.nextInt(3) > 0) op = "text";
            if (op.equals("restore") && random.nextInt(4) > 0) op = "monday";
            if (op.equals("judge") && random.nextInt(3) > 0) op = "told pairs";
            if (op.equals("thrown") && random.nextInt(3) > 0) op = "told odds";
            for (Object[] call : callsOf(op)) {
                String name = (String) call[0];
                long[] a = (long[]) call[1];
                long want = onModel(name, a);
                log.add(name + java.util.Arrays.toString(a) + " " + want);
                long got;
                try {
                    got = onClass(name, a);
                } catch (RuntimeException | Error e) {
                    e.printStackTrace(System.out);
                    got = -999999;
                }
                check.due("run " + run + ": " + name + java.util.Arrays.toString(a), got, want);
                if (got != want) {
                    log.forEach(System.out::println);
                    return;
                }
            }
        }
    }

    // ---- which calls

    private int odd(int ordinary) {
        if (random.nextInt(40) > 0) return ordinary;
        int[] odd = {-1, -2, Integer.MIN_VALUE, Integer.MAX_VALUE, 3, 6, 12, 13, 16, 17, 64, 100, 1000, -99999};
        return odd[random.nextInt(odd.length)];
    }

    private int below(int end) {
        return odd(random.nextInt(Math.max(1, end)));
    }

    private int aSock() {
        return random.nextInt(20) == 0 ? m.st.socks.size() : below(m.st.socks.size());
    }

    private List<Object[]> callsOf(String op) {
        List<Object[]> calls = new ArrayList<>();
        switch (op) {
            case "sock": {
                if (m.st.socks.size() >= mostSocks && random.nextInt(30) > 0) break;
                int low = random.nextInt(3) == 0 ? random.nextInt(100) : random.nextInt(30);
                int high = Math.min(99, low + (random.nextInt(2) == 0 ? 0 : random.nextInt(12)));
                if (random.nextInt(30) == 0) high = low - 1;
                add(calls, "sock", odd(random.nextInt(kinds)), below(2), odd(low), odd(high));
                break;
            }
            case "text":
                if (m.st.socks.size() >= mostSocks && random.nextInt(10) > 0) break;
                type(calls, aText());
                add(calls, "socks");
                break;
            case "type":
                add(calls, "type", random.nextLong(), random.nextInt(4) == 0 ? random.nextInt(12) - 1 : 1 + random.nextInt(8));
                add(calls, "type", 0x6131203a2c6c7278L, 1 + random.nextInt(8));
                break;
            case "told pairs":
                toldPairs(calls);
                break;
            case "told odds":
                toldOdds(calls);
                break;
            default:
                add(calls, op, argsOf(op));
        }
        return calls;
    }

    private static void add(List<Object[]> calls, String name, long... a) {
        calls.add(new Object[] {name, a});
    }

    private long[] argsOf(String op) {
        int n = m.st.socks.size();
        switch (op) {
            case "told": return new long[] {aSock(), below(8)};
            case "fade": return new long[] {below(6), below(10)};
            case "set": return random.nextBoolean() ? new long[] {0, below(21)} : new long[] {below(3), below(2)};
            case "monday": return aMonday();
            case "found": return new long[] {lostOrAny()};
            case "alike": case "fellows": case "bind": return new long[] {aSock(), aSock()};
            case "count": return new long[] {below(6)};
            case "pairs": case "seldom": return new long[] {below(2)};
            case "fellow": case "part": case "whose": return new long[] {aSock()};
            case "judge": return new long[] {below(4), below(3), below(4)};
            case "thrown": return new long[] {below(4), below(3), below(10), 1 + below(8), below(1000), below(100)};
            case "worth": return new long[] {below(4), below(3), below(10), 1 + below(8), below(1000), below(100), below(2)};
            case "odds": return new long[] {random.nextInt(3) == 0 ? below(13) : below(n + 1), below(2)};
            case "owns": return anOwning();
            case "may": return new long[] {aSock(), below(8)};
            case "lacks": return new long[] {below(6), below(2)};
            case "wish": return new long[] {below(3), random.nextInt(3) == 0 ? below(64) : 1 << random.nextInt(6) | 1 << random.nextInt(6)};
            case "marks": return new long[] {1 + below(5), below(4), below(6) - 1};
            case "sheet": return new long[] {below(4), below(3), random.nextInt(10) == 0 ? below(20) - 2 : 8 + below(9)};
            case "drop": return new long[] {below(4)};
            case "item": return new long[] {below(4), below(3), below(16), random.nextInt(4) == 0 ? random.nextInt() : below(13)};
            default: return new long[0];
        }
    }

    private long lostOrAny() {
        for (int i = 0; i < m.st.socks.size(); i++) {
            if (m.st.socks.get(i).where == 1 && random.nextInt(3) > 0) return i;
        }
        return aSock();
    }

    private long[] aMonday() {
        int went = 0, back = 0;
        boolean most = random.nextInt(3) > 0;
        for (int i = 0; i < m.st.socks.size(); i++) {
            Model.S s = m.st.socks.get(i);
            boolean goes = most ? random.nextInt(6) > 0 : random.nextBoolean();
            if (s.where == 1 && random.nextInt(40) > 0) goes = false;
            if (s.where == 2 && s.other < i && random.nextInt(40) > 0) goes = (went >> s.other & 1) == 1;
            if (goes) went |= 1 << i;
            if (goes && random.nextInt(5) > 0) back |= 1 << i;
        }
        return new long[] {odd(went), odd(back)};
    }

    private long[] anOwning() {
        int least = random.nextInt(4) == 0 ? random.nextInt(3) : 0;
        int most = random.nextInt(3) == 0 ? random.nextInt(5) : 12;
        return new long[] {below(3), odd(random.nextInt(kinds)), odd(least), odd(most)};
    }

    private String aText() {
        int n = random.nextInt(12) == 0 ? 9 : 1 + random.nextInt(Math.max(1, Math.min(8, mostSocks - m.st.socks.size())));
        StringBuilder b = new StringBuilder();
        for (int i = 0; i < n; i++) {
            if (i > 0) b.append(',');
            b.append((char) ('a' + random.nextInt(kinds))).append(random.nextBoolean() ? 'l' : 'r');
            int low = random.nextInt(20) == 0 ? random.nextInt(120) : random.nextInt(30);
            if (random.nextInt(10) == 0) b.append('0');
            b.append(low);
            if (random.nextInt(3) == 0) b.append('-').append(Math.max(0, Math.min(random.nextInt(40) == 0 ? 120 : 99, low - 1 + random.nextInt(40))));
            if (random.nextInt(3) == 0) b.append(':').append(new String[] {"x", "y", "z", "xy", "xz", "yz", "xyz"}[random.nextInt(7)]);
        }
        if (random.nextInt(3) == 0) garble(b);
        return b.toString();
    }

    private void garble(StringBuilder b) {
        String signs = "abcfglr0123456789-,:xyzw ;A    ";
        int times = 1 + random.nextInt(3);
        for (int i = 0; i < times && b.length() > 0; i++) {
            int at = random.nextInt(b.length() + 1);
            char sign = signs.charAt(random.nextInt(signs.length()));
            int how = random.nextInt(4);
            if (how == 0 && at < b.length()) b.deleteCharAt(at);
            else if (how == 1 && at < b.length()) b.setCharAt(at, sign);
            else if (how == 2) b.insert(at, ' ');
            else if (random.nextInt(4) == 0) b.setLength(at);
            else b.insert(at, sign);
        }
    }

    private void type(List<Object[]> calls, String text) {
        for (int at = 0; at < text.length(); ) {
            int n = Math.min(1 + random.nextInt(8), text.length() - at);
            long w = random.nextBoolean() ? 0 : random.nextLong();
            for (int i = 0; i < n; i++) w = w << 8 | text.charAt(at + i);
            add(calls, "type", w, n);
            at += n;
        }
    }

    private void toldPairs(List<Object[]> calls) {
        int n = m.st.socks.size();
        int lane = random.nextInt(3), sheet = random.nextInt(4), from = random.nextInt(4);
        add(calls, "sheet", sheet, lane, Math.min(16, n + from + random.nextInt(3)));
        long[] told = new long[n];
        java.util.Arrays.fill(told, -1);
        List<Integer> order = new ArrayList<>();
        for (int i = 0; i < n; i++) order.add(i);
        Collections.shuffle(order, random);
        for (int i : order) {
            for (int j : order) {
                boolean free = i != j && told[i] == -1 && told[j] == -1;
                if (free && (m.fellows(i, j) == 0 || random.nextInt(60) == 0) && random.nextInt(3) > 0
                        && (m.st.socks.get(i).where + m.st.socks.get(j).where == 0 || random.nextInt(30) == 0)) {
                    told[i] = j;
                    told[j] = i;
                }
            }
        }
        if (n > 0 && random.nextInt(4) == 0) told[random.nextInt(n)] = odd(random.nextInt(14) - 1);
        for (int i = 0; i < n; i++) add(calls, "item", sheet, lane, from + i, told[i]);
        add(calls, "judge", sheet, odd(lane), odd(from));
    }

    private void toldOdds(List<Object[]> calls) {
        int lane = random.nextInt(3), sheet = random.nextInt(4), from = random.nextInt(4), n = 1 + random.nextInt(8);
        add(calls, "sheet", sheet, lane, n + from);
        for (int i = 0; i < n; i++) {
            int p = random.nextInt(60) == 0 ? 13 : random.nextInt(3) == 0 ? random.nextInt(3) : random.nextInt(13);
            add(calls, "item", sheet, lane, from + i, random.nextInt(80) == 0 ? -1 : p);
        }
        int v = odd(random.nextInt(1000)), c = odd(random.nextInt(100));
        add(calls, "thrown", sheet, lane, from, n, v, c);
        add(calls, "worth", sheet, lane, from, n, v, c, 0);
        add(calls, "worth", sheet, lane, from, n, v, c, 1);
    }

    // ---- the same call on both

    private static int i(long v) {
        return (int) v;
    }

    private long onClass(String op, long[] a) {
        switch (op) {
            case "sock": return x.sock(i(a[0]), i(a[1]), i(a[2]), i(a[3]));
            case "type": return x.type(a[0], i(a[1]));
            case "socks": return x.socks();
            case "told": return x.told(i(a[0]), i(a[1]));
            case "fade": return x.fade(i(a[0]), i(a[1]));
            case "set": return x.set(i(a[0]), i(a[1]));
            case "monday": return x.monday(i(a[0]), i(a[1]));
            case "found": return x.found(i(a[0]));
            case "alike": return x.alike(i(a[0]), i(a[1]));
            case "fellows": return x.fellows(i(a[0]), i(a[1]));
            case "count": return x.count(i(a[0]));
            case "pairs": return x.pairs(i(a[0]));
            case "fellow": return x.fellow(i(a[0]));
            case "pairUp": return x.pairUp();
            case "part": return x.part(i(a[0]));
            case "judge": return x.judge(i(a[0]), i(a[1]), i(a[2]));
            case "thrown": return x.thrown(i(a[0]), i(a[1]), i(a[2]), i(a[3]), i(a[4]), i(a[5]));
            case "worth": return x.worth(i(a[0]), i(a[1]), i(a[2]), i(a[3]), i(a[4]), i(a[5]), i(a[6]));
            case "worst": return x.worst();
            case "odds": return x.odds(i(a[0]), i(a[1]));
            case "owns": return x.owns(i(a[0]), i(a[1]), i(a[2]), i(a[3]));
            case "may": return x.may(i(a[0]), i(a[1]));
            case "bind": return x.bind(i(a[0]), i(a[1]));
            case "ways": return x.ways();
            case "whose": return x.whose(i(a[0]));
            case "seldom": return x.seldom(i(a[0]));
            case "lacks": return x.lacks(i(a[0]), i(a[1]));
            case "wish": return x.wish(i(a[0]), i(a[1]));
            case "buy": return x.buy();
            case "marks": return x.marks(i(a[0]), i(a[1]), i(a[2]));
            case "image": return x.image();
            case "restore": return x.restore();
            case "sheet": return x.sheet(i(a[0]), i(a[1]), i(a[2]));
            case "drop": return x.drop(i(a[0]));
            default: return x.item(i(a[0]), i(a[1]), i(a[2]), i(a[3]));
        }
    }

    private long onModel(String op, long[] a) {
        switch (op) {
            case "sock": return m.sock(i(a[0]), i(a[1]), i(a[2]), i(a[3]));
            case "type": return m.type(a[0], i(a[1]));
            case "socks": return m.socks();
            case "told": return m.told(i(a[0]), i(a[1]));
            case "fade": return m.fade(i(a[0]), i(a[1]));
            case "set": return m.set(i(a[0]), i(a[1]));
            case "monday": return m.monday(i(a[0]), i(a[1]));
            case "found": return m.found(i(a[0]));
            case "alike": return m.alike(i(a[0]), i(a[1]));
            case "fellows": return m.fellows(i(a[0]), i(a[1]));
            case "count": return m.count(i(a[0]));
            case "pairs": return m.pairs(i(a[0]));
            case "fellow": return m.fellow(i(a[0]));
            case "pairUp": return m.pairUp();
            case "part": return m.part(i(a[0]));
            case "judge": return m.judge(i(a[0]), i(a[1]), i(a[2]));
            case "thrown": return m.thrown(i(a[0]), i(a[1]), i(a[2]), i(a[3]), i(a[4]), i(a[5]));
            case "worth": return m.worth(i(a[0]), i(a[1]), i(a[2]), i(a[3]), i(a[4]), i(a[5]), i(a[6]));
            case "worst": return m.worst();
            case "odds": return m.odds(i(a[0]), i(a[1]));
            case "owns": return m.owns(i(a[0]), i(a[1]), i(a[2]), i(a[3]));
            case "may": return m.may(i(a[0]), i(a[1]));
            case "bind": return m.bind(i(a[0]), i(a[1]));
            case "ways": return m.ways();
            case "whose": return m.whose(i(a[0]));
            case "seldom": return m.seldom(i(a[0]));
            case "lacks": return m.lacks(i(a[0]), i(a[1]));
            case "wish": return m.wish(i(a[0]), i(a[1]));
            case "buy": return m.buy();
            case "marks": return m.marks(i(a[0]), i(a[1]), i(a[2]));
            case "image": return m.image();
            case "restore": return m.restore();
            case "sheet": return m.sheet(i(a[0]), i(a[1]), i(a[2]));
            case "drop": return m.drop(i(a[0]));
            default: return m.item(i(a[0]), i(a[1]), i(a[2]), i(a[3]));
        }
    }
}
