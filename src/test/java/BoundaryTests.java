import java.io.IOException;
import java.nio.file.Path;

/**
 * The boundary cases that the document names, sentence by sentence: too small, too large, empty, full,
 * a wrap-around, a refused call. Each sentence has a method of its own that begins with its words.
 */
public final class BoundaryTests {
    public static void main(String[] args) throws IOException {
        Sentences sentences = new Sentences();
        new FaceBoundaries(sentences).run();
        new TermBoundaries(sentences).run();
        new CallBoundaries(sentences).run();
        new QuestionBoundaries(sentences).run();
        sentences.lookUp(Path.of("..", "shared", "DOC.md"));
        sentences.end();
    }
}
