/** Every sentence of the document that names an edge, in its own words, with the calls that hold it. */
final class EdgeTest {
    public static void main(String[] args) {
        Sentences s = new Sentences();
        EdgesOfTape.hold(s);
        EdgesOfWalks.hold(s);
        EdgesOfRoads.hold(s);
        EdgesOfHouses.hold(s);
        EdgesOfSeen.hold(s);
        EdgesOfSets.hold(s);
        EdgesOfActs.hold(s);
        EdgesOfSlots.hold(s);
        s.finish();
    }
}
