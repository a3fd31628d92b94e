/** Promises 18 to 35 and terms IV, V, sentence by sentence. */
final class EdgesOfRoads {
    private static final String NO_CELLS = EdgesOfWalks.NO_CELLS;
    private static final String NO_YEARS = EdgesOfWalks.NO_YEARS;
    private static final String NO_WIDOWS = EdgesOfWalks.NO_WIDOWS;

    /** She walks round a square and one side on: 0, 10, 11, 1, 0, 10, 20. */
    private static final String RING = "colony years 1 law 0 odds 0 wide 3 high 2;"
            + "widow 0 0 faces 0 steps 6 at 0 grief right right right right right left;";

    /** 0 - 10 and 22 - 32 apart in year 1; 20 - 21 lies beside both in year 2. */
    private static final String APART = "colony years 2 law 0 odds 0 wide 4 high 3;"
            + "widow 0 0 faces 1 steps 1 at 0 grief on;widow 2 2 faces 1 steps 1 at 0 grief on;"
            + "widow 2 0 faces 2 steps 1 at 1 grief on;";

    /** Two whole columns and a whole row of 8 by 8. */
    private static final String STREETS = "colony years 1 law 0 odds 0 wide 8 high 8;"
            + "widow 0 0 faces 2 steps 7 at 0 grief on;widow 1 0 faces 2 steps 7 at 0 grief on;"
            + "widow 0 3 faces 1 steps 7 at 0 grief on;";

    /** Law 1 winds four widows inwards, one behind the other, through all 64 cells from 0 to 34. */
    private static final String WINDING = "colony years 1 law 1 odds 0 wide 8 high 8;house 3 3;"
            + "widow 0 0 faces 1 steps 27 at 0 grief on;widow 0 1 faces 1 steps 20 at 0 grief on;"
            + "widow 1 2 faces 1 steps 12 at 0 grief on;widow 2 3 faces 1 steps 4 at 0 grief on;";

    private final Sentences s;

    private EdgesOfRoads(Sentences s) {
        this.s = s;
    }

    static void hold(Sentences s) {
        EdgesOfRoads edges = new EdgesOfRoads(s);
        edges.roads();
        edges.joins();
        edges.nets();
        edges.breaking();
        edges.ways();
        edges.people();
        edges.rows();
        edges.terms();
    }

    private void noYear(String name) {
        s.refuses(-2, name + "(#)", NO_YEARS);
    }

    private void roads() {
        s.of(18);
        s.says("1 if a cell is ROAD in a YEAR, else 0.");
        s.told(Colonies.TWO_YEARS, "road(0,0)=0 road(0,1)=1 road(0,2)=1 road(2,1)=0 road(2,2)=1 road(11,2)=0 road(32,2)=0");
        s.told(STREETS, "road(77,1)=0 road(7,1)=1 road(73,1)=1 road(70,1)=0");
        s.says("-2: there are none such.");
        s.refuses(-2, "road(#,0)", NO_CELLS);
        s.refuses(-2, "road(0,#)", NO_YEARS);
        s.refusesWithoutColony(-2, "road(0,0)");

        s.of(19);
        s.says("How many cells are ROAD in a YEAR.");
        s.told(Colonies.TWO_YEARS, "roads(0)=0 roads(1)=4 roads(2)=8");
        s.told(Colonies.GONE, "roads(1)=4 roads(2)=4");
        s.told(Colonies.BARE, "roads(0)=0 roads(12)=0");
        s.told(WINDING, "at(0,27)=1 at(1,20)=12 at(2,12)=23 at(3,4)=34 roads(1)=64 house(0,1)=-1 road(77,1)=1");
        s.says("-2: there is none such");
        noYear("roads");
        s.says("no COLONY.");
        s.refusesWithoutColony(-2, "roads(0)");

        s.of(20);
        s.says("How many PEGS there are in a YEAR.");
        s.told(Colonies.TWO_YEARS, "pegs(0)=0 pegs(1)=3 pegs(2)=6");
        s.told(STREETS, "pegs(1)=21");
        s.told(Colonies.BARE, "pegs(0)=0 pegs(12)=0");
        s.told(WINDING, "pegs(1)=63");
        s.says("-2 likewise.");
        noYear("pegs");
        s.refusesWithoutColony(-2, "pegs(0)");
    }

    private void joins() {
        s.of(21);
        s.says("PEGS from a cell in a YEAR, as bits of D (as faces).");
        s.told(Colonies.TWO_YEARS, "joins(0,0)=0 joins(0,1)=2 joins(10,1)=10 joins(30,1)=8 joins(2,1)=0 joins(2,2)=3"
                + " joins(1,2)=4 joins(12,2)=10 joins(11,2)=0");
        s.told(STREETS, "joins(0,1)=4 joins(7,1)=1 joins(10,1)=4 joins(3,1)=7 joins(13,1)=15 joins(73,1)=8 joins(77,1)=0");
        s.says("-2: there are none such.");
        s.refuses(-2, "joins(#,0)", NO_CELLS);
        s.refuses(-2, "joins(0,#)", NO_YEARS);
        s.refusesWithoutColony(-2, "joins(0,0)");

        s.of(22);
        s.says("Cells with n (0 .. 4) PEGS that are ROAD in a YEAR: how many.");
        s.told(Colonies.TWO_YEARS, "corners(0,0)=0 corners(0,1)=0 corners(1,1)=2 corners(2,1)=2 corners(3,1)=0"
                + " corners(4,1)=0 corners(1,2)=4 corners(2,2)=4");
        // a cell that is ROAD without a PEG
        s.told(Colonies.SHUT_IN, "corners(0,0)=0 corners(0,1)=1 corners(1,1)=0 corners(4,1)=0");
        s.told(WINDING, "corners(0,1)=0 corners(1,1)=2 corners(2,1)=62 corners(3,1)=0 corners(4,1)=0");
        s.told(STREETS, "corners(0,1)=0 corners(1,1)=5 corners(2,1)=15 corners(3,1)=1 corners(4,1)=1");
        s.says("-2: there are none such");
        s.refuses(-2, "corners(#,0)", "-1 -2147483648 5 6 2147483647");
        s.refuses(-2, "corners(0,#)", NO_YEARS);
        s.says("no COLONY.");
        s.refusesWithoutColony(-2, "corners(0,0)");
    }

    private void nets() {
        s.of(23);
        s.says("How many NETS there are in a YEAR.");
        s.told(Colonies.TWO_YEARS, "nets(0)=0 nets(1)=1 nets(2)=2");
        s.told(Colonies.SHUT_IN, "nets(0)=0 nets(1)=1");
        s.told(APART, "nets(1)=2 nets(2)=3");
        s.told(WINDING, "nets(1)=1 missing(1)=0 rings(1)=0");
        s.says("-2: there is none such");
        noYear("nets");
        s.says("no COLONY.");
        s.refusesWithoutColony(-2, "nets(0)");

        s.of(24);
        s.says("How many PEGS more must be pegged at least, so that all ROAD is one NET");
        s.told(Colonies.TWO_YEARS, "missing(1)=0 missing(2)=1");
        s.told(APART, "missing(2)=2");
        s.says("(each PEG joins two cells side by side that are ROAD in it)");
        s.told(APART, "nets(1)=2 missing(1)=-1 nets(2)=3 missing(2)=2");
        s.says("as many as nets() less 1 (0 without ROAD), if NETS lie side by side so");
        s.told(Colonies.TWO_YEARS, "missing(0)=0 nets(2)=2 missing(2)=1");
        s.told(Colonies.BARE, "missing(0)=0 missing(12)=0");
        s.told(Colonies.SHUT_IN, "missing(0)=0 missing(1)=0");
        // what no one has pegged within a NET is not missing
        s.told("colony years 1 law 0 odds 0 wide 2 high 2;widow 0 0 faces 1 steps 3 at 0 grief on;", "pegs(1)=3 missing(1)=0");
        s.says("NONE: they do not all");
        s.told(APART, "missing(1)=-1 keeps(1)=2 missing(1)=0 missing(2)=1");
        // aslant is not side by side, nor is 07 beside 10
        s.told("colony years 1 law 0 odds 0 wide 8 high 8;creek 0 1;creek 1 0;widow 0 0 faces 0 steps 1 at 0 grief on;"
                + "widow 1 1 faces 1 steps 1 at 0 grief on;", "roads(1)=3 nets(1)=2 missing(1)=-1");
        s.told("colony years 1 law 0 odds 0 wide 8 high 8;widow 0 6 faces 2 steps 1 at 0 grief on;"
                + "widow 1 0 faces 2 steps 1 at 0 grief on;", "nets(1)=2 missing(1)=-1");
        // two of three side by side, the third apart
        s.told("colony years 1 law 0 odds 0 wide 8 high 2;widow 0 0 faces 2 steps 1 at 0 grief on;"
                + "widow 1 0 faces 2 steps 1 at 0 grief on;widow 7 0 faces 2 steps 1 at 0 grief on;",
                "nets(1)=3 missing(1)=-1");
        s.says("-2 likewise.");
        noYear("missing");
        s.refusesWithoutColony(-2, "missing(0)");
    }

    private void breaking() {
        s.of(25);
        s.says("How many PEGS may go at most so that NETS stay joined (PEGS less ROAD cells, and NETS).");
        s.told(Colonies.TWO_YEARS, "rings(0)=0 rings(1)=0 rings(2)=0");
        s.told(RING, "rings(0)=0 pegs(1)=5 roads(1)=5 nets(1)=1 rings(1)=1");
        s.told(APART, "rings(2)=0");
        s.told(Colonies.SHUT_IN, "rings(1)=0");
        // two rings side by side share a side: 0, 10, 20, 21, 11, 1, 0 and 10 - 11
        s.told("colony years 1 law 0 odds 0 wide 3 high 2;widow 0 0 faces 1 steps 6 at 0 grief on;"
                + "widow 1 0 faces 2 steps 1 at 0 grief on;", "pegs(1)=7 roads(1)=6 rings(1)=2 bridges(1)=0");
        s.says("-2 likewise.");
        noYear("rings");
        s.refusesWithoutColony(-2, "rings(0)");

        s.of(26);
        s.says("How many BRIDGES (V) there are in a YEAR.");
        s.told(Colonies.TWO_YEARS, "bridges(0)=0 bridges(1)=3 bridges(2)=6");
        s.told(RING, "bridges(0)=0 bridges(1)=1");
        s.told(STREETS, "bridges(1)=21");
        s.told(WINDING, "bridges(1)=63");
        s.told(Colonies.SHUT_IN, "bridges(1)=0");
        s.says("-2 likewise.");
        noYear("bridges");
        s.refusesWithoutColony(-2, "bridges(0)");

        s.of(27);
        s.says("How many cells of the NET of a cell in a YEAR there are");
        s.told(Colonies.TWO_YEARS, "net(0,1)=4 net(30,2)=4 net(1,2)=4 net(2,2)=4");
        s.told(Colonies.SHUT_IN, "net(0,1)=1");
        s.told(STREETS, "net(0,1)=22 net(73,1)=22");
        s.told(WINDING, "net(0,1)=64 net(77,1)=64 net(34,1)=64");
        s.says("(0: it is no ROAD).");
        s.told(Colonies.TWO_YEARS, "net(0,0)=0 net(2,1)=0 net(11,2)=0 net(32,2)=0");
        s.says("-2: there are none such.");
        s.refuses(-2, "net(#,0)", NO_CELLS);
        s.refuses(-2, "net(0,#)", NO_YEARS);
        s.refusesWithoutColony(-2, "net(0,0)");
    }

    private void ways() {
        s.of(28);
        s.says("How many PEGS it is at least from a cell to another one in a YEAR");
        s.told(Colonies.TWO_YEARS, "way(0,30,1)=3 way(30,0,1)=3 way(2,22,2)=2 way(22,1,2)=3");
        s.told(RING, "way(1,20,1)=3 way(0,11,1)=2 way(1,0,1)=1");
        s.told(STREETS, "way(7,17,1)=9 way(0,77,1)=-1 way(7,73,1)=11");
        s.told(WINDING, "way(0,34,1)=63 way(34,0,1)=63 way(0,77,1)=14 way(0,1,1)=27");
        s.says("(0: the same, a ROAD).");
        s.told(Colonies.TWO_YEARS, "way(0,0,1)=0 way(2,2,2)=0");
        s.told(Colonies.SHUT_IN, "way(0,0,1)=0");
        s.says("NONE: there is no way");
        s.told(Colonies.TWO_YEARS, "way(2,0,2)=-1 way(0,2,2)=-1 way(0,11,2)=-1 way(0,2,1)=-1");
        // side by side without a PEG
        s.told("colony years 1 law 0 odds 0 wide 2 high 2;widow 0 0 faces 1 steps 3 at 0 grief on;", "way(0,1,1)=3");
        s.told(APART, "way(10,20,2)=-1 way(21,22,2)=-1");
        s.says("the first is no ROAD");
        s.told(Colonies.TWO_YEARS, "way(11,0,2)=-1 way(11,11,2)=-1 way(0,0,0)=-1 way(32,32,2)=-1 way(2,2,1)=-1");
        s.says("-2: there are none such.");
        s.refuses(-2, "way(#,0,0)", NO_CELLS);
        s.refuses(-2, "way(0,#,0)", NO_CELLS);
        s.refuses(-2, "way(0,0,#)", NO_YEARS);
        s.refusesWithoutColony(-2, "way(0,0,0)");

        s.of(29);
        s.says("STRAIGHT from a cell to another one (0: the same).");
        s.told(Colonies.TWO_YEARS, "beeline(10,12)=4 beeline(12,10)=4 beeline(0,32)=5 beeline(0,0)=0 beeline(32,32)=0");
        s.told(Colonies.BARE, "beeline(0,77)=14 beeline(77,0)=14 beeline(7,10)=8 beeline(70,7)=14 beeline(77,77)=0");
        s.says("NONE: there is none");
        s.told(Colonies.SHUT_IN, "beeline(0,11)=-1 beeline(11,0)=-1 bridge(10)=2 beeline(0,11)=2");
        s.says("one has a CREEK");
        s.told(Colonies.TWO_YEARS, "beeline(11,0)=-1 beeline(0,11)=-1 beeline(11,11)=-1 bridge(11)=7 beeline(11,0)=2"
                + " beeline(0,11)=2 beeline(11,11)=0 beeline(10,12)=2");
        s.says("-2: there are none such.");
        s.refuses(-2, "beeline(#,0)", NO_CELLS);
        s.refuses(-2, "beeline(0,#)", NO_CELLS);
        s.refuses(-2, "beeline(#,#)", NO_CELLS);
        s.refusesWithoutColony(-2, "beeline(0,0)");

        s.of(30);
        s.says("The ROAD cell that is farthest from a ROAD cell by PEGS in a YEAR");
        s.told(Colonies.TWO_YEARS, "farthest(0,1)=30 farthest(20,1)=0 farthest(2,2)=22 farthest(1,2)=22");
        s.told(Colonies.SHUT_IN, "farthest(0,1)=0");
        s.told(STREETS, "farthest(7,1)=73 farthest(73,1)=7");
        s.told(WINDING, "farthest(0,1)=34 farthest(34,1)=0 farthest(77,1)=34");
        s.says("the least of several.");
        s.told("colony years 1 law 0 odds 0 wide 3 high 2;widow 0 0 faces 1 steps 2 at 0 grief on;", "farthest(10,1)=0");
        s.told(RING, "farthest(20,1)=1 farthest(10,1)=1 farthest(0,1)=11");
        s.says("NONE: it is no ROAD");
        s.told(Colonies.TWO_YEARS, "farthest(0,0)=-1 farthest(2,1)=-1 farthest(11,2)=-1 farthest(32,2)=-1");
        s.says("-2: there are none such.");
        s.refuses(-2, "farthest(#,0)", NO_CELLS);
        s.refuses(-2, "farthest(0,#)", NO_YEARS);
        s.refusesWithoutColony(-2, "farthest(0,0)");
    }

    private void people() {
        s.of(31);
        s.says("The cell in which most WIDOWS are in all (each once)");
        s.told(Colonies.ENDING, "crossing()=21");
        // twice in 0 counts once: 0, 10, 0; and two are in 10
        s.told("colony years 1 law 0 odds 0 wide 3 high 2;creek 0 1;creek 1 1;creek 2 1;"
                + "widow 0 0 faces 1 steps 2 at 0 grief on back;widow 2 0 faces 3 steps 1 at 0 grief on;",
                "visits(0,0)=2 crossing()=10");
        s.says("the least of several, if any is.");
        s.told(Colonies.TWO_YEARS, "crossing()=0 keeps(0)=3 crossing()=1");
        s.told("colony years 1 law 0 odds 0 wide 8 high 8;widow 7 7 faces 0 steps 1 at 0 grief on;", "crossing()=76");
        // twice 77: in it are two
        s.told("colony years 1 law 0 odds 0 wide 8 high 8;widow 7 7 faces 0 steps 1 at 0 grief on;"
                + "widow 7 7 faces 3 steps 1 at 0 grief on;", "crossing()=77 walked(77)=3 shared(0,1)=1");
        s.says("NONE: none");
        s.told(Colonies.BARE, "crossing()=-1");
        s.told(Colonies.TWO_YEARS, "keeps(0)=3 keeps(1)=0 crossing()=-1 undo()=1 crossing()=1");
        s.told("colony years 1 law 0 odds 0 wide 2 high 2;widow 0 0 faces 1 steps 1 at 1 grief on;", "crossing()=-1");
        s.says("-2: there is no COLONY.");
        s.refusesWithoutColony(-2, "crossing()");

        s.of(32);
        s.says("How many cells two WIDOWS (one twice, too; ");
        s.told(Colonies.ENDING, "shared(0,1)=1 shared(1,0)=1 shared(1,2)=1 shared(0,0)=2 shared(1,1)=3 shared(2,2)=2");
        s.told(Colonies.TWO_YEARS, "shared(0,1)=0 shared(1,1)=4");
        s.says("who do not walk are in none) both are in.");
        s.told(Colonies.ENDING, "keeps(0)=6 shared(0,0)=0 shared(0,1)=0 shared(1,0)=0");
        s.told("colony years 1 law 0 odds 0 wide 2 high 2;widow 0 0 faces 1 steps 1 at 1 grief on;", "shared(0,0)=0");
        s.says("-2: there are none such.");
        s.refuses(-2, "shared(#,0)", NO_WIDOWS);
        s.refuses(-2, "shared(0,#)", NO_WIDOWS);
        s.refuses(-2, "shared(#,#)", NO_WIDOWS);
        s.refusesWithoutColony(-2, "shared(0,0)");

        s.of(33);
        s.says("WIDOWS who are in a cell, as bits.");
        s.told(Colonies.ENDING, "walked(21)=7 walked(20)=1 walked(1)=2 walked(31)=4 walked(0)=0 keeps(1)=2 walked(21)=5");
        s.told("colony years 1 law 0 odds 0 wide 2 high 2;" + "widow 0 0 faces 1 steps 1 at 0 grief on;".repeat(7),
                "walked(0)=127 walked(10)=127 walked(1)=0 keeps(6)=1 walked(0)=63");
        s.says("-2: there is no such cell.");
        s.refuses(-2, "walked(#)", NO_CELLS);
        s.refusesWithoutColony(-2, "walked(0)");

        s.of(34);
        s.says("The first YEAR in which a cell is ROAD.");
        s.told(Colonies.TWO_YEARS, "first(0)=1 first(30)=1 first(1)=2 first(22)=2");
        s.told("colony years 12 law 0 odds 0 wide 2 high 2;widow 0 0 faces 1 steps 1 at 11 grief on;", "first(10)=12");
        s.says("NONE: in none");
        s.told(Colonies.TWO_YEARS, "first(11)=-1 first(32)=-1 keeps(0)=3 first(0)=-1");
        s.told(Colonies.BARE, "first(0)=-1 first(77)=-1");
        s.says("-2: there is no such cell.");
        s.refuses(-2, "first(#)", NO_CELLS);
        s.refusesWithoutColony(-2, "first(0)");
    }

    private void rows() {
        s.of(35);
        s.says("The longest row of PEGS, end to end in one row or column, in a YEAR: how many.");
        s.told(Colonies.TWO_YEARS, "line(0)=0 line(1)=3 line(2)=3 keeps(0)=3 line(2)=2");
        s.told(STREETS, "line(1)=7");
        s.told(Colonies.SHUT_IN, "line(1)=0");
        // of two widows, end to end: 0 - 10 and 10 - 20; one column: 0 .. 7 in two parts
        s.told("colony years 2 law 0 odds 0 wide 3 high 2;widow 0 0 faces 1 steps 1 at 0 grief on;"
                + "widow 2 0 faces 3 steps 1 at 1 grief on;", "line(1)=1 line(2)=2");
        // side by side in number, not in place: 06 - 07 and 10 - 11
        s.told("colony years 1 law 0 odds 0 wide 8 high 8;widow 0 6 faces 2 steps 1 at 0 grief on;"
                + "widow 1 0 faces 2 steps 1 at 0 grief on;", "line(1)=1");
        // ROAD cells side by side without a PEG part a row: 0 - 10, 20 - 30
        s.told("colony years 1 law 0 odds 0 wide 4 high 2;widow 0 0 faces 1 steps 1 at 0 grief on;"
                + "widow 3 0 faces 3 steps 1 at 0 grief on;", "roads(1)=4 line(1)=1");
        s.says("-2: there is none such");
        noYear("line");
        s.says("no COLONY.");
        s.refusesWithoutColony(-2, "line(0)");
    }

    private void terms() {
        s.of("IV");
        s.says("By PEGS one goes from ROAD cell to ROAD cell; each PEG is as long.");
        s.told(RING, "way(1,20,1)=3 way(20,1,1)=3 way(11,20,1)=2");
        s.says("STRAIGHT: the fewest cells from one to another one, side by side, CREEKS aside, PEGGED or not.");
        s.told(Colonies.TWO_YEARS, "beeline(0,10)=1 beeline(0,1)=1 beeline(0,2)=2 beeline(1,21)=4 beeline(31,32)=1");
        // a wall of creeks through all the colony but one cell, and through all of it
        s.told("colony years 1 law 0 odds 0 wide 3 high 3;creek 1 0;creek 1 1;", "beeline(0,20)=6 beeline(1,21)=4");
        s.told("colony years 1 law 0 odds 0 wide 3 high 3;creek 1 0;creek 1 1;creek 1 2;", "beeline(0,20)=-1 beeline(0,2)=2"
                + " bridge(12)=0 beeline(0,20)=6");
        s.of("V");
        s.says("A PEG is a BRIDGE, if without it its two cells are not joined by PEGS.");
        s.told(RING, "bridges(1)=1");
        // the ring's last side is not pegged: all three are bridges, though 0 and 1 lie side by side
        s.told("colony years 1 law 0 odds 0 wide 2 high 2;widow 0 0 faces 1 steps 3 at 0 grief on;",
                "bridges(1)=3 rate(0,4)=3 bridges(1)=0");
        s.says("NET: ROAD cells all joined by PEGS.");
        s.told(APART, "nets(2)=3 net(0,2)=2 net(22,2)=2 net(20,2)=2");
    }
}
