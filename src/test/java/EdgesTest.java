import java.io.IOException;
import java.nio.file.Files;
import java.nio.file.Path;

/**
 * All promises, sentence by sentence: the last number that is allowed and the first that is not, the empty and the full,
 * what comes behind a wrap-around, and of each refused call its answer and that nothing else has changed.
 */
public final class EdgesTest {
    public static void main(String[] args) throws IOException {
        Due due = new Due("EdgesTest");
        Edges e = new Edges(due, Files.readString(Path.of("../shared/DOC.md")));
        new TermsEdges(e).all();
        new NetEdges(e).all();
        new HoldingEdges(e).all();
        new GoingEdges(e).all();
        new HandEdges(e).all();
        new FieldEdges(e).all();
        new TreeEdges(e).all();
        new BalanceEdges(e).all();
        new SetsEdges(e).all();
        e.end();
        due.end();
    }
}
