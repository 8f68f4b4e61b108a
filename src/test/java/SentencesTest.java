import java.io.IOException;
import java.nio.file.Files;
import java.nio.file.Path;

/** Each sentence of the document with a test of its own, above all where it names a boundary case. */
public final class SentencesTest extends Due {
    public static void main(String[] args) throws IOException {
        Book book = new Book(Files.readString(Path.of("../shared/DOC.md")));
        TextSentences.tell(book);
        TermSentences.tell(book);
        AskSentences.tell(book);
        ActSentences.tell(book);
        book.isWhole();
        finish(book.tests() + " sentences hold");
    }
}
