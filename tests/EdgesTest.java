/** Each sentence of the document that names a boundary, by hand: what it names, one less, one more, what it refuses. */
public final class EdgesTest {
    private EdgesTest() {
    }

    public static void main(String[] args) {
        EdgesOfTexts.all();
        EdgesOfBooks.all();
        EdgesOfSentences.all();
        EdgesOfActs.all();
        EdgesOfPlans.all();
        EdgesOfAnswers.all();
        EdgesOfTheWhole.all();
        Edge.everyPart();
        Check.end("EdgesTest");
    }
}
