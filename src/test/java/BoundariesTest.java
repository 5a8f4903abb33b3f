import java.io.IOException;
import java.nio.file.Files;
import java.nio.file.Path;

/**
 * A test for each sentence of the document that names a boundary. Each test quotes its sentence, which must stand in
 * the document as quoted; and no sentence of the terms and the promises may be left without being quoted.
 */
public final class BoundariesTest {
    private static final int PROMISES = 37;

    public static void main(String[] args) throws IOException {
        Sentences sentences = new Sentences(Files.readAllLines(Path.of("../shared/DOC.md")));
        Check check = new Check();
        Boundaries[] parts = {new TermBoundaries(sentences, check),
            new LeastAndTextBoundaries(sentences, check), new RefusalBoundaries(sentences, check),
            new ChangeBoundaries(sentences, check), new ColorantsAndBasesBoundaries(sentences, check),
            new FormulasBoundaries(sentences, check), new CansBoundaries(sentences, check),
            new AccountsAndUndoBoundaries(sentences, check)};
        for (Boundaries part : parts) {
            part.tell();
        }
        check.same("What it is: not cited", "", sentences.notCited("What it is"));
        check.same("Terms: not cited", "", sentences.notCited("Terms"));
        for (int i = 1; i <= PROMISES; i++) {
            check.same("Promise " + i + ": not cited", "", sentences.notCited("Promise " + i));
        }
        check.end();
    }
}
