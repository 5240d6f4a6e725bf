/** Objects made for tests. */
final class Make {
    private Make() {
    }

    /** A new object with the socks of a text. */
    static OneOfEach house(String text) {
        OneOfEach x = new OneOfEach();
        put(x, text);
        return x;
    }

    /** Types a text and reads it: what socks() answers. */
    static int put(OneOfEach x, String text) {
        typed(x, text);
        return x.socks();
    }

    /** Types a text in words of up to eight bytes: what the last type() answers. */
    static int typed(OneOfEach x, String text) {
        int answer = 0;
        for (int at = 0; at < text.length(); at += 8) {
            int n = Math.min(8, text.length() - at);
            answer = x.type(word(text.substring(at, at + n)), n);
        }
        return answer;
    }

    /** Up to eight bytes as one number, the first one highest. */
    static long word(String text) {
        long w = 0;
        for (int i = 0; i < text.length(); i++) {
            w = w << 8 | text.charAt(i);
        }
        return w;
    }

    /** Twelve socks of one kind and tone. */
    static OneOfEach twelve() {
        OneOfEach x = house("al1,al1,al1,al1,al1,al1,al1,al1");
        put(x, "al1,al1,al1,al1");
        return x;
    }

    /** A sheet with these items. */
    static OneOfEach onSheet(OneOfEach x, int sheet, int lane, int... items) {
        x.sheet(sheet, lane, items.length);
        for (int i = 0; i < items.length; i++) {
            x.item(sheet, lane, i, items[i]);
        }
        return x;
    }
}
