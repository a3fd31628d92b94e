/** Promises 36 to 43 and term III, sentence by sentence. */
final class EdgesOfHouses {
    private static final String NO_YEARS = EdgesOfWalks.NO_YEARS;
    private static final String NO_WIDOWS = EdgesOfWalks.NO_WIDOWS;
    /** In the rich history there is one house. */
    private static final String NO_HOUSES = "-1 -2147483648 1 5 6 64 2147483647";

    private final Sentences s;

    private EdgesOfHouses(Sentences s) {
        this.s = s;
    }

    static void hold(Sentences s) {
        EdgesOfHouses edges = new EdgesOfHouses(s);
        edges.moving();
        edges.houses();
        edges.served();
        edges.covers();
        edges.blame();
        edges.ford();
    }

    private void moving() {
        s.of("III");
        s.says("Behind a walk HOUSES in whose cell she was");
        s.told(Colonies.TWO_YEARS, "house(0,0)=20 house(0,1)=1 moves(0)=1");
        // her first cell, too
        s.told("colony years 1 law 0 odds 0 wide 2 high 2;house 0 0;widow 0 0 faces 1 steps 1 at 0 grief on;",
                "house(0,0)=0 house(0,1)=1 moved(0)=1");
        // beside it is not in it
        s.told("colony years 1 law 0 odds 0 wide 2 high 2;house 0 1;widow 0 0 faces 1 steps 1 at 0 grief on;",
                "house(0,1)=1 moved(0)=0");
        s.says("in order, are moved each");
        s.told("colony years 1 law 0 odds 0 wide 3 high 3;house 1 0;house 0 1;house 0 0;creek 0 2;"
                + "widow 0 0 faces 1 steps 2 at 0 grief on;", "house(0,1)=11 house(1,1)=1 house(2,1)=12");
        s.says("to the least cell of the colony without a CREEK, HOUSE, ROAD (of this walk, too)");
        // 0 is free; a creek in 0; a house in 0; ROAD in 0 of a widow ahead; all of her own walk
        String head = "colony years 1 law 0 odds 0 wide 3 high 2;";
        String goes = "widow 2 0 faces 3 steps 1 at 0 grief on;";
        s.told(head + "house 1 0;" + goes, "house(0,1)=0");
        s.told(head + "house 1 0;creek 0 0;" + goes, "house(0,1)=1 bridge(0)=1 house(0,1)=0");
        s.told(head + "house 1 0;house 0 0;" + goes, "house(0,1)=1 house(1,1)=0");
        s.told(head + "house 1 0;creek 1 1;widow 0 0 faces 2 steps 1 at 0 grief on;" + goes,
                "house(0,1)=21 bridge(11)=2 house(0,1)=11");
        s.told(head + "house 1 0;widow 2 0 faces 3 steps 2 at 0 grief on;", "at(0,2)=0 house(0,1)=1");
        // the cell that a house of lesser number has left is ROAD; that of a greater one is still its own
        s.told(head + "house 1 0;house 2 0;" + goes, "house(0,1)=0 house(1,1)=1");
        s.says("if there is none, it is GONE.");
        s.told(Colonies.GONE, "house(0,0)=1 house(0,1)=-1 house(1,1)=-1 house(0,2)=-1 moved(0)=1");
        // one cell is left for two: the second is gone
        s.told("colony years 1 law 0 odds 0 wide 2 high 2;house 0 0;house 1 0;creek 0 1;"
                + "widow 0 0 faces 1 steps 1 at 0 grief on;", "house(0,1)=11 house(1,1)=-1 moves(0)=2");
        s.says("One may be moved again and again.");
        s.told(Colonies.TWO_YEARS, "house(0,0)=20 house(0,1)=1 house(0,2)=21 moved(0)=2");
        // twice in one year
        s.told("colony years 1 law 0 odds 0 wide 4 high 2;house 1 0;widow 1 0 faces 1 steps 1 at 0 grief on;"
                + "widow 0 0 faces 2 steps 1 at 0 grief on;", "house(0,0)=10 house(0,1)=11 moved(0)=2 moves(0)=1 moves(1)=1");
    }

    private void houses() {
        s.of(36);
        s.says("The cell of a HOUSE in a YEAR.");
        s.told(Colonies.TWO_YEARS, "house(0,0)=20 house(0,1)=1 house(0,2)=21");
        s.told("colony years 12 law 0 odds 0 wide 8 high 8;house 7 7;house 7 6;house 7 5;house 7 4;house 7 3;house 7 2;",
                "house(0,0)=77 house(5,0)=72 house(5,12)=72 house(6,0)=-2 house(0,13)=-2");
        s.says("NONE: it is GONE");
        s.told(Colonies.GONE, "house(0,1)=-1 house(1,1)=-1 house(1,2)=-1 keeps(0)=1 house(0,1)=1 house(1,2)=11");
        s.says("-2: there are none such.");
        s.refuses(-2, "house(#,0)", NO_HOUSES);
        s.refuses(-2, "house(0,#)", NO_YEARS);
        s.refusesWithoutColony(-2, "house(0,0)");
        s.told(Colonies.GONE, "house(2,1)=-2 house(0,3)=-2 house(-1,1)=-2");

        s.of(37);
        s.says("How often a HOUSE is moved (GONE, too) in all.");
        s.told(Colonies.TWO_YEARS, "moved(0)=2 keeps(1)=3 moved(0)=1 keeps(0)=0 moved(0)=0");
        s.told(Colonies.GONE, "moved(0)=1 moved(1)=1");
        s.says("-2: there is none such.");
        s.refuses(-2, "moved(#)", NO_HOUSES);
        s.refusesWithoutColony(-2, "moved(0)");
        s.told(Colonies.BARE, "moved(0)=-2");

        s.of(38);
        s.says("How many HOUSES are moved (GONE, too) behind a WIDOW's walk.");
        s.told(Colonies.TWO_YEARS, "moves(0)=1 moves(1)=1");
        s.told(Colonies.GONE, "moves(0)=2 moves(1)=0");
        s.told("colony years 1 law 0 odds 0 wide 8 high 2;house 0 0;house 1 0;house 2 0;house 3 0;house 4 0;house 5 0;"
                + "widow 0 0 faces 1 steps 7 at 0 grief on;", "moves(0)=6 house(0,1)=1 house(5,1)=51");
        s.says("NONE: she does not walk");
        s.told(Colonies.TWO_YEARS, "keeps(0)=3 moves(0)=-1 moves(1)=0");
        s.told("colony years 1 law 0 odds 0 wide 2 high 2;house 0 0;widow 0 0 faces 1 steps 1 at 1 grief on;",
                "moves(0)=-1 moved(0)=0");
        s.says("-2: there is none such.");
        s.refuses(-2, "moves(#)", NO_WIDOWS);
        s.refusesWithoutColony(-2, "moves(0)");
    }

    private void served() {
        s.of(39);
        s.says("How many HOUSES (GONE ones not) have ROAD beside their cell in a YEAR.");
        s.told(Colonies.TWO_YEARS, "served(0)=0 served(1)=1 served(2)=1");
        s.told(Colonies.GONE, "served(0)=0 served(1)=0 served(2)=0");
        s.told(Colonies.BARE, "served(0)=0 served(12)=0");
        // each of the four sides, not aslant
        s.told("colony years 1 law 0 odds 0 wide 3 high 3;creek 1 0;creek 0 1;creek 2 1;house 1 2;house 2 2;"
                + "creek 1 2;widow 1 1 faces 0 steps 1 at 0 grief on;", "stands(0)=1 served(1)=1 served(0)=0");
        s.told("colony years 1 law 0 odds 0 wide 3 high 3;house 1 1;house 2 1;house 2 0;house 2 2;"
                + "widow 0 0 faces 1 steps 1 at 0 grief on;", "served(1)=2");
        // side by side in number, not in place: ROAD in 07, a house in 10
        s.told("colony years 1 law 0 odds 0 wide 8 high 8;house 1 0;widow 0 6 faces 2 steps 1 at 0 grief on;",
                "road(7,1)=1 served(1)=0");
        s.says("-2: there is none such");
        s.refuses(-2, "served(#)", NO_YEARS);
        s.says("no COLONY.");
        s.refusesWithoutColony(-2, "served(0)");
    }

    private void covers() {
        s.of(40);
        s.says("The fewest WIDOWS in whose cells all ROAD of the last YEAR lies (as they walk now).");
        s.told(Colonies.TWO_YEARS, "cover()=2 keeps(0)=3 cover()=1 keeps(1)=0 cover()=0 anew()=2 cover()=2");
        s.told(Colonies.BARE, "cover()=0");
        s.told("colony years 1 law 0 odds 0 wide 2 high 2;widow 0 0 faces 1 steps 1 at 1 grief on;", "cover()=0");
        s.told(seven(), "cover()=7");
        s.told("colony years 1 law 0 odds 0 wide 2 high 2;" + "widow 0 0 faces 1 steps 1 at 0 grief on;".repeat(7), "cover()=1");
        s.says("-2: there is no COLONY.");
        s.refusesWithoutColony(-2, "cover()");

        s.of(41);
        s.says("The least set of so few, as bits.");
        s.told(Colonies.TWO_YEARS, "covers()=3 keeps(0)=3 covers()=2 keeps(1)=0 covers()=0");
        s.told(seven(), "covers()=127");
        s.told("colony years 1 law 0 odds 0 wide 2 high 2;" + "widow 0 0 faces 1 steps 1 at 0 grief on;".repeat(7),
                "covers()=1 keeps(0)=1 covers()=2");
        // 0 - 10 twice and 10 - 20 twice: of 5, 9, 6 .. the least is 3
        s.told("colony years 1 law 0 odds 0 wide 3 high 2;widow 0 0 faces 1 steps 1 at 0 grief on;"
                + "widow 1 0 faces 1 steps 1 at 0 grief on;widow 1 0 faces 3 steps 1 at 0 grief on;"
                + "widow 2 0 faces 3 steps 1 at 0 grief on;", "cover()=2 covers()=3");
        s.told(Colonies.BARE, "covers()=0");
        s.says("-2 likewise.");
        s.refusesWithoutColony(-2, "covers()");
    }

    /** Seven widows, each in cells of her own. */
    private static String seven() {
        StringBuilder text = new StringBuilder("colony years 1 law 0 odds 0 wide 8 high 2;");
        for (int w = 0; w < 7; w++) {
            text.append("widow " + w + " 0 faces 2 steps 1 at 0 grief on;");
        }
        return text.toString();
    }

    private void blame() {
        s.of(42);
        s.says("The WIDOW without whom fewest HOUSES are moved in all");
        // without 0 the house is moved by none; without 1 it is moved once
        s.told(Colonies.TWO_YEARS, "blame()=0 moved(0)=2 keeps(0)=3 moved(0)=0");
        // without 1, who moves two houses, one is moved; without 0, two
        s.told("colony years 1 law 0 odds 0 wide 8 high 2;house 0 0;house 4 0;house 5 0;"
                + "widow 0 0 faces 2 steps 1 at 0 grief on;widow 4 0 faces 1 steps 1 at 0 grief on;", "blame()=1");
        s.says("if fewer than now");
        s.told("colony years 1 law 0 odds 0 wide 3 high 2;house 1 0;widow 0 0 faces 1 steps 1 at 0 grief on;"
                + "widow 2 0 faces 3 steps 1 at 0 grief on;", "moved(0)=1 blame()=-1");
        s.says("the first of several.");
        s.told("colony years 1 law 0 odds 0 wide 4 high 2;house 1 0;house 1 1;"
                + "widow 0 0 faces 1 steps 1 at 0 grief on;widow 2 1 faces 3 steps 1 at 0 grief on;",
                "moved(0)=1 moved(1)=1 blame()=0 keeps(0)=1 blame()=1");
        s.says("NONE: none");
        s.told(Colonies.BARE, "blame()=-1");
        s.told(Colonies.SHUNNING, "blame()=-1");
        s.told(Colonies.TWO_YEARS, "keeps(0)=3 blame()=-1 keeps(1)=0 blame()=-1 anew()=2 blame()=0");
        s.says("-2 likewise.");
        s.refusesWithoutColony(-2, "blame()");
    }

    private void ford() {
        s.of(43);
        s.says("The CREEK told that, bridged, makes most PEGS in the last YEAR");
        s.told(Colonies.TWO_YEARS, "ford()=0");
        // creek 0 bridged lets her one step out, creek 1 further
        s.told("colony years 1 law 0 odds 0 wide 3 high 3;creek 0 1;creek 1 0;creek 1 1;creek 0 2;"
                + "widow 0 0 faces 0 steps 3 at 0 grief on;", "pegs(1)=0 ford()=1 bridge(10)=3 pegs(1)=3");
        s.says("if more than now");
        s.told(Colonies.TWO_YEARS, "bridge(11)=7 ford()=-1 undo()=0 ford()=0");
        s.told("colony years 1 law 0 odds 0 wide 3 high 3;creek 2 2;widow 0 0 faces 1 steps 1 at 0 grief on;", "ford()=-1");
        s.says("the first of several.");
        s.told(Colonies.SHUT_IN, "ford()=0 bridge(10)=2 ford()=1");
        s.told("colony years 1 law 0 odds 0 wide 3 high 2;creek 0 1;creek 2 0;creek 0 0;creek 1 1;"
                + "widow 1 0 faces 1 steps 1 at 0 grief on;", "pegs(1)=0 ford()=1 bridge(0)=1 ford()=-1");
        s.says("NONE: none");
        s.told(Colonies.BARE, "ford()=-1");
        s.told(Colonies.SHUNNING, "ford()=-1");
        s.told(Colonies.SHUT_IN, "keeps(0)=0 ford()=-1");
        s.says("-2 likewise.");
        s.refusesWithoutColony(-2, "ford()");
    }
}
