import java.io.IOException;
import java.nio.file.Path;

/** Each sentence of the document has a test of its own, for what it says at its edges most of all. */
public final class EdgesTest {
    public static void main(String[] args) throws IOException {
        Sentences s = new Sentences(Path.of(System.getProperty("document", "../shared/DOC.md")));
        new ListTerms(s).tell();
        new ReaderTerms(s).tell();
        new EnoughTerms(s).tell();
        new ListPromises(s).tell();
        new ReaderPromises(s).tell();
        new EnoughPromises(s).tell();
        s.end();
    }
}
