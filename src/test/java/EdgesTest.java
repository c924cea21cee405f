import java.io.IOException;

/**
 * Each sentence of the document that names an edge (too small, too large, empty, full, refused) has a test of its
 * own in edges/, which quotes it; in the end no word of the promises and terms may be left unquoted.
 */
public final class EdgesTest {
    public static void main(String[] args) throws IOException {
        Due due = new Due();
        Sentences sentences = new Sentences(due);
        new EdgesOfDocument(sentences).run();
        new EdgesOfTable(sentences).run();
        new EdgesOfMatching(sentences).run();
        new EdgesOfGraph(sentences).run();
        new EdgesOfRests(sentences).run();
        new EdgesOfFractions(sentences).run();
        sentences.allAreQuoted();
        due.end();
    }
}
