import java.io.IOException;
import java.nio.file.Files;
import java.nio.file.Path;

/** The document's sentences one by one, in its order, at the boundaries that they name; none may be left out. */
public final class BoundaryTest extends Boundaries {
    public static void main(String[] args) throws IOException {
        boolean along = args.length > 0 && Files.isReadable(Path.of(args[0]));
        Document document = along ? new Document(Path.of(args[0])) : null;
        readAlong(document);
        TextBoundaries.run();
        DayBoundaries.run();
        LookBoundaries.run();
        GuessBoundaries.run();
        LookBoundaries.runLast();
        CallBoundaries.run();
        FullBoundaries.run();
        if (along) {
            about("what no test quotes");
            document.unquoted().forEach(Checks::report);
        } else {
            System.out.println("without the document at hand it can't be seen whether each sentence has a test");
        }
        end("each sentence holds at its boundaries");
    }
}
