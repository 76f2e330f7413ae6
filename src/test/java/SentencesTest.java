import java.io.IOException;

/**
 * The document read sentence by sentence: each that names a boundary has a test of its own under
 * its words, and no words of a promise, of the Terms or of "What it is" are left without one. Run
 * from the project's folder.
 */
public final class SentencesTest {
    private SentencesTest() {
    }

    public static void main(String[] args) throws IOException {
        Doc doc = new Doc();
        Due due = new Due();
        new EdgesOfTheWhole(doc, due).all();
        new EdgesOfTerms(doc, due).all();
        new EdgesOfWrites(doc, due).all();
        new EdgesOfPlaces(doc, due).all();
        new EdgesOfDeeds(doc, due).all();
        new EdgesOfCounts(doc, due).all();
        new EdgesOfThoughts(doc, due).all();
        new EdgesOfTexts(doc, due).all();
        for (String left : doc.unnamed()) {
            due.is("no test names " + left, 0, 1);
        }
        due.end();
    }
}
