/** The boundary cases that the document names, sentence by sentence: its terms, then its promises. */
public final class EdgesTest {
    public static void main(String[] args) {
        Edges edges = new Edges();
        new DuchyTerms(edges).all();
        new RuleTerms(edges).all();
        new HourTerms(edges).all();
        new AskTerms(edges).all();
        new LogTerms(edges).all();
        new TextPromises(edges).all();
        new ActPromises(edges).all();
        new AskPromises(edges).all();
        edges.finish();
    }
}
