/** Colonies that several tests walk through; each walk was worked out by hand from the document. */
final class Colonies {
    private Colonies() {
    }

    /**
     * Widow 0 goes 0, 10, 20, 30 in year 0 and moves the house from 20 to 1. Widow 1 goes 2, 12, 22, 12, 2, 1 in
     * year 1 and moves it on to 21.
     */
    static final String TWO_YEARS = "colony years 2 law 0 odds 5 wide 4 high 3; creek 1 1; house 2 0;\n"
            + "widow 0 0 faces 1 steps 3 at 0 grief on; widow 0 2 faces 0 steps 5 at 1 grief right left;";

    /** Widow 0 goes 0, 10, 20; widow 1 shuns that: 1, 11, 21, 22, 12. */
    static final String SHUNNING = "colony years 1 law 1 odds 0 wide 3 high 3;"
            + "widow 0 0 faces 1 steps 2 at 0 grief on; widow 0 1 faces 0 steps 4 at 0 grief on;";

    /** All is road when widow 1 walks: law 1 gives way to law 0, she goes 0, 10, 11. */
    static final String ALL_ROAD = "colony years 2 law 1 odds 0 wide 2 high 2;"
            + "widow 0 0 faces 1 steps 4 at 0 grief on; widow 0 0 faces 0 steps 2 at 1 grief on;";

    /** She never goes where she was, while she can help it: 10, 0, 1, 11, 21, 20, 21. */
    static final String NO_STEP_BACK = "colony years 1 law 2 odds 0 wide 3 high 2;"
            + "widow 1 0 faces 3 steps 6 at 0 grief on;";

    /** Law 3: 20, 21; then 1, 11, 21 (ends); then, a year on, 21, 31, 21 (ends). */
    static final String ENDING = "colony years 2 law 3 odds 0 wide 4 high 2;"
            + "widow 2 0 faces 2 steps 1 at 0 grief on; widow 0 1 faces 1 steps 9 at 0 grief on;"
            + "widow 2 1 faces 1 steps 4 at 1 grief on;";

    /** She can go nowhere. */
    static final String SHUT_IN = "colony years 1 law 0 odds 0 wide 2 high 2; creek 1 0; creek 0 1;"
            + "widow 0 0 faces 0 steps 3 at 0 grief on;";

    /** A creek comes behind her and a house: 10, 0, 1; she can't go back into 10; the house goes to 11. */
    static final String CREEK_AT_HOME = "colony years 1 law 0 odds 0 wide 3 high 2;"
            + "widow 1 0 faces 1 steps 2 at 0 grief back; house 1 0; creek 1 0;";

    /** All four cells are walked: both houses are gone. Widow 1 goes 0, 10. */
    static final String GONE = "colony years 2 law 0 odds 3 wide 2 high 2; house 0 1; house 1 1;"
            + "widow 0 0 faces 1 steps 3 at 0 grief on; widow 0 0 faces 1 steps 1 at 1 grief on;";

    /** Law 3: widow 0 pegs 11 - 10; widow 1 would go 0 .. 70, but ends at 10 behind her. */
    static final String IN_THE_WAY = "colony years 1 law 3 odds 4 wide 8 high 2;"
            + "widow 1 1 faces 0 steps 1 at 0 grief on; widow 0 0 faces 1 steps 7 at 0 grief on;";

    /** One colony and nothing in it. */
    static final String BARE = "colony years 12 law 3 odds 10 wide 8 high 8;";
}
