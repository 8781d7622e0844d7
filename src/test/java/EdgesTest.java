/** Each sentence of the document that names a boundary case, in the document's order, by its own words. */
public final class EdgesTest {
    public static void main(String[] args) {
        EdgesOfTerms.run();
        EdgesOfRefusing.run();
        EdgesOfWoods.run();
        EdgesOfChildren.run();
        EdgesOfRows.run();
        EdgesOfPlaces.run();
        EdgesOfHome.run();
        EdgesOfTelling.run();
        Sentences.checkAllNamed();
        Due.end();
    }
}
