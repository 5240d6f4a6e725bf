import java.nio.file.Path;

/** Each sentence of the document, above all those that name a boundary case, with a test of its own. */
public final class BoundaryTest {
    private BoundaryTest() {
    }

    public static void main(String[] args) throws Exception {
        Book book = new Book(Path.of(System.getProperty("shared", "../shared"), "DOC.md"));
        new RefusalsChapter(book).tell();
        new SocksChapter(book).tell();
        new PairsChapter(book).tell();
        new OwnersChapter(book).tell();
        new SheetsChapter(book).tell();
        book.close();
    }
}
