/** Some sentences of the document, with their tests. */
abstract class Chapter {
    static final int BAD = -1, NOT = -2, FULL = -3, NONE = -4, NULL = -11, CAST = -12, INDEX = -13, SIZE = -14;
    static final int MIN = Integer.MIN_VALUE, MAX = Integer.MAX_VALUE;
    static final int BYTES = 0, SHORTS = 1, INTS = 2;

    private final Book book;

    Chapter(Book book) {
        this.book = book;
    }

    abstract void tell();

    void at(String section) {
        book.at(section);
    }

    void says(String words, Runnable test) {
        book.says(words, test);
    }

    void due(String call, long got, long want) {
        book.due(call, got, want);
    }

    void holds(String what, boolean holds) {
        book.holds(what, holds);
    }

    static OneOfEach house(String text) {
        return Make.house(text);
    }

    static int put(OneOfEach x, String text) {
        return Make.put(x, text);
    }
}
