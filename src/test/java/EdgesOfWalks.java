/** Promises 6 to 17 and term II, sentence by sentence. */
final class EdgesOfWalks {
    /** Values for a # that are none such in the rich history: 4 by 3 cells, two years, two widows. */
    static final String NO_CELLS = "-1 -10 -2147483648 3 9 13 33 39 40 44 80 100 1000 2147483647";
    static final String NO_YEARS = "-1 -2147483648 3 12 13 2147483647";
    static final String NO_WIDOWS = "-1 -2147483648 2 6 7 32 64 2147483647";

    private static final String ONE = "colony years 1 law 0 odds 0 wide 3 high 3;";

    private final Sentences s;

    private EdgesOfWalks(Sentences s) {
        this.s = s;
    }

    static void hold(Sentences s) {
        EdgesOfWalks edges = new EdgesOfWalks(s);
        edges.told();
        edges.at();
        edges.counts();
        edges.loops();
        edges.evenings();
        edges.straight();
        edges.years();
        edges.turns();
        edges.laws();
        edges.pegging();
    }

    private void told() {
        s.of(6);
        s.says("1 if there is a CREEK in a cell (told, not bridged), else 0.");
        s.told(Colonies.TWO_YEARS, "creek(11)=1 creek(0)=0 creek(32)=0 creek(2)=0 creek(30)=0 bridge(11)=7 creek(11)=0"
                + " undo()=0 creek(11)=1 bridge(0)=6 creek(11)=1 creek(0)=0");
        s.says("-2: there is no such cell.");
        s.refuses(-2, "creek(#)", NO_CELLS);
        s.refusesWithoutColony(-2, "creek(0)");
        s.told(Colonies.BARE, "creek(77)=0 creek(7)=0 creek(70)=0 creek(8)=-2 creek(78)=-2 creek(79)=-2 creek(80)=-2");

        s.of(7);
        s.says("Of a WIDOW, what 0: her first cell, 1: D, 2: STEPS, 3: her YEAR, 4: how many T.");
        s.told("colony years 12 law 0 odds 0 wide 8 high 8;widow 7 7 faces 3 steps 40 at 11 grief on on on on on on on on;"
                + "widow 0 0 faces 0 steps 1 at 0 grief left;", "widow(0,0)=77 widow(0,1)=3 widow(0,2)=40 widow(0,3)=11"
                + " widow(0,4)=8 widow(1,0)=0 widow(1,1)=0 widow(1,2)=1 widow(1,3)=0 widow(1,4)=1");
        s.told(Colonies.TWO_YEARS, "keeps(1)=3 widow(1,0)=2 widow(1,1)=0 widow(1,2)=5 widow(1,3)=1 widow(1,4)=2");
        s.says("-2: there are none such.");
        s.refuses(-2, "widow(#,0)", NO_WIDOWS);
        s.refuses(-2, "widow(0,#)", "-1 -2147483648 5 6 2147483647");
        s.refuses(-2, "widow(2,#)", "-1 5");
        s.refusesWithoutColony(-2, "widow(0,0)");

        s.of(8);
        s.says("T i (from 0) of her grief, 0 on, 1 right, 2 back, 3 left.");
        s.told(ONE + "widow 0 0 faces 0 steps 1 at 0 grief on right back left left back right on;",
                "grief(0,0)=0 grief(0,1)=1 grief(0,2)=2 grief(0,3)=3 grief(0,4)=3 grief(0,5)=2 grief(0,6)=1 grief(0,7)=0");
        s.says("NONE: she has none such");
        s.told(ONE + "widow 0 0 faces 0 steps 1 at 0 grief on on on on on on on on;", "grief(0,8)=-1 grief(0,9)=-1");
        s.refuses(-1, "grief(0,#)", "1 2 7 8 9 2147483647");
        s.refuses(-1, "grief(1,#)", "2 8");
        s.says("-2: there is none such");
        s.refuses(-2, "grief(#,0)", NO_WIDOWS);
        s.refuses(-2, "grief(2,#)", "0 8 -1 2147483647");
        s.refusesWithoutColony(-2, "grief(0,0)");
        s.says("i is below 0.");
        s.refuses(-2, "grief(0,#)", "-1 -8 -2147483648");
    }

    private void at() {
        s.of(9);
        s.says("The cell of a WIDOW behind a STEP (0: at first).");
        s.told(Colonies.TWO_YEARS, "at(0,0)=0 at(0,1)=10 at(0,2)=20 at(0,3)=30 at(1,0)=2 at(1,1)=12 at(1,5)=1");
        // two cells, forty steps: she goes to and fro
        s.told("colony years 1 law 0 odds 0 wide 2 high 2;creek 0 1;creek 1 1;widow 0 0 faces 1 steps 40 at 0 grief on;",
                "at(0,0)=0 at(0,1)=10 at(0,38)=0 at(0,39)=10 at(0,40)=0");
        s.says("NONE: she has not walked so far");
        s.told(Colonies.TWO_YEARS, "at(0,4)=-1 at(0,40)=-1 at(1,6)=-1 at(1,40)=-1");
        s.says("(stays in, ");
        s.told(Colonies.TWO_YEARS, "keeps(0)=3 at(0,0)=-1 at(0,1)=-1 at(0,40)=-1 at(1,0)=2");
        s.says("ended, ");
        s.told(Colonies.ENDING, "at(1,2)=21 at(1,3)=-1 at(1,9)=-1 at(2,2)=21 at(2,3)=-1 at(2,4)=-1");
        s.says("not told of a YEAR ahead of the last)");
        for (String at : new String[] {"1", "2", "11"}) {
            s.told(ONE + "widow 0 0 faces 1 steps 3 at " + at + " grief on;", "at(0,0)=-1 at(0,1)=-1 at(0,40)=-1");
        }
        s.told("colony years 12 law 0 odds 0 wide 3 high 3;widow 0 0 faces 1 steps 3 at 11 grief on;",
                "at(0,0)=0 at(0,1)=10");
        s.says("-2: there are none such (STEP 0 .. 40).");
        s.refuses(-2, "at(0,#)", "-1 -2147483648 41 42 2147483647");
        s.refuses(-2, "at(#,0)", NO_WIDOWS);
        s.refusesWithoutColony(-2, "at(0,0)");
        s.told(ONE + "widow 0 0 faces 1 steps 3 at 1 grief on;", "at(0,41)=-2 at(0,-1)=-2 at(1,0)=-2");
    }

    private void counts() {
        s.of(10);
        s.says("How many STEPS she has (those on which she stands, too");
        s.told(Colonies.TWO_YEARS, "steps(0)=3 steps(1)=5");
        s.told(Colonies.SHUT_IN, "steps(0)=3 rate(0,40)=3 steps(0)=40 rate(0,1)=40 steps(0)=1");
        s.told(Colonies.ENDING, "steps(0)=1 steps(1)=2 steps(2)=2");
        s.says("NONE: she does not walk)");
        s.told(Colonies.TWO_YEARS, "keeps(1)=3 steps(1)=-1 steps(0)=3 keeps(0)=0 steps(0)=-1");
        s.told(ONE + "widow 0 0 faces 1 steps 3 at 1 grief on;", "steps(0)=-1");
        s.says("-2: there is none such.");
        s.refuses(-2, "steps(#)", NO_WIDOWS);
        s.refusesWithoutColony(-2, "steps(0)");

        s.of(11);
        s.says("How many of them she stands.");
        s.told(Colonies.TWO_YEARS, "stands(0)=0 stands(1)=0");
        s.told(Colonies.SHUT_IN, "stands(0)=3 rate(0,40)=3 stands(0)=40 bridge(10)=2 stands(0)=0");
        s.says("NONE, -2 likewise.");
        s.told(Colonies.SHUT_IN, "keeps(0)=0 stands(0)=-1");
        s.told(ONE + "widow 0 0 faces 1 steps 3 at 1 grief on;", "stands(0)=-1");
        s.refuses(-2, "stands(#)", NO_WIDOWS);
        s.refusesWithoutColony(-2, "stands(0)");

        s.of(12);
        s.says("How many unlike cells she is in.");
        s.told(Colonies.TWO_YEARS, "ground(0)=4 ground(1)=4");
        s.told(Colonies.SHUT_IN, "ground(0)=1");
        s.told("colony years 1 law 2 odds 0 wide 8 high 8;widow 0 0 faces 1 steps 40 at 0 grief on;", "ground(0)=41");
        s.told("colony years 1 law 0 odds 0 wide 2 high 2;widow 0 0 faces 1 steps 40 at 0 grief on;", "ground(0)=4");
        s.says("NONE, -2 likewise.");
        s.told(Colonies.TWO_YEARS, "keeps(1)=3 ground(1)=-1 ground(0)=4");
        s.told(ONE + "widow 0 0 faces 1 steps 3 at 1 grief on;", "ground(0)=-1");
        s.refuses(-2, "ground(#)", NO_WIDOWS);
        s.refusesWithoutColony(-2, "ground(0)");
    }

    private void loops() {
        s.of(13);
        s.says("The STEP with which she first comes back to her first cell from another one.");
        s.told(Colonies.TWO_YEARS, "loop(1)=4");
        s.told(Colonies.ALL_ROAD, "loop(0)=4 rate(0,40)=4 loop(0)=4");
        // 0, 10, 0 and on: with the second step, though she is there again and again
        s.told("colony years 1 law 0 odds 0 wide 2 high 2;creek 0 1;creek 1 1;widow 0 0 faces 1 steps 40 at 0 grief on;",
                "loop(0)=2");
        s.says("NONE: with none");
        s.told(Colonies.TWO_YEARS, "loop(0)=-1 rate(1,3)=5 loop(1)=-1 rate(1,4)=3 loop(1)=4");
        // to stand is not to come back
        s.told(Colonies.SHUT_IN, "loop(0)=-1");
        s.told(Colonies.TWO_YEARS, "keeps(1)=3 loop(1)=-1");
        s.told(ONE + "widow 0 0 faces 1 steps 9 at 1 grief on;", "loop(0)=-1");
        s.says("-2 likewise.");
        s.refuses(-2, "loop(#)", NO_WIDOWS);
        s.refusesWithoutColony(-2, "loop(0)");

        s.of(14);
        s.says("The cell in which she is most often (behind STEPS 0 .. the last)");
        s.told(ONE + "widow 0 0 faces 1 steps 3 at 0 grief on on back;", "at(0,2)=20 at(0,3)=10 haunt(0)=10");
        s.told(Colonies.SHUT_IN, "haunt(0)=0");
        // the very last cell of 8 by 8: 77, 67, 77
        s.told("colony years 1 law 0 odds 0 wide 8 high 8;widow 7 7 faces 3 steps 2 at 0 grief on back;",
                "visits(0,77)=2 haunt(0)=77 loop(0)=2");
        s.says("the least of several.");
        s.told(Colonies.TWO_YEARS, "visits(1,2)=2 visits(1,12)=2 haunt(1)=2 haunt(0)=0");
        // 22, 21: each once
        s.told(ONE + "widow 2 2 faces 0 steps 1 at 0 grief on;", "haunt(0)=21");
        // 20, 10, 20 and so on, twenty times 10: step 0 counts
        s.told("colony years 1 law 0 odds 0 wide 3 high 2;creek 0 0;creek 0 1;creek 1 1;creek 2 1;"
                + "widow 2 0 faces 3 steps 40 at 0 grief on;", "visits(0,20)=21 visits(0,10)=20 haunt(0)=20");
        s.says("NONE, -2 as steps().");
        s.told(Colonies.TWO_YEARS, "keeps(1)=3 haunt(1)=-1");
        s.told(ONE + "widow 0 0 faces 1 steps 9 at 1 grief on;", "haunt(0)=-1");
        s.refuses(-2, "haunt(#)", NO_WIDOWS);
        s.refusesWithoutColony(-2, "haunt(0)");
    }

    private void evenings() {
        s.of(15);
        s.says("WIDOWS who walk in a YEAR ahead of the last, as bits.");
        s.told(Colonies.TWO_YEARS, "evening(0)=1 evening(1)=2 keeps(0)=3 evening(0)=0 evening(1)=2");
        s.told("colony years 12 law 0 odds 0 wide 3 high 3;" + "widow 0 0 faces 1 steps 1 at 11 grief on;".repeat(7),
                "evening(0)=0 evening(10)=0 evening(11)=127 evening(12)=-2 keeps(3)=1 evening(11)=119");
        s.told(Colonies.BARE, "evening(0)=0 evening(11)=0 evening(12)=-2");
        s.says("-2: there is none such.");
        s.refuses(-2, "evening(#)", "2 " + NO_YEARS);
        s.refusesWithoutColony(-2, "evening(0)");
        s.told(ONE + "widow 0 0 faces 1 steps 1 at 1 grief on;", "evening(0)=0 evening(1)=-2");

        s.of(16);
        s.says("How often a WIDOW is in a cell (behind STEPS 0 .. the last");
        s.told(Colonies.TWO_YEARS, "visits(1,2)=2 visits(1,12)=2 visits(1,22)=1 visits(1,1)=1 visits(1,0)=0 visits(0,0)=1"
                + " visits(0,30)=1 visits(0,32)=0");
        s.told(Colonies.SHUT_IN, "visits(0,0)=4 rate(0,40)=3 visits(0,0)=41 visits(0,10)=0");
        s.says("0, if she does not walk)");
        s.told(Colonies.TWO_YEARS, "keeps(1)=3 visits(1,2)=0 visits(1,12)=0");
        s.told(ONE + "widow 0 0 faces 1 steps 9 at 1 grief on;", "visits(0,0)=0 visits(0,10)=0");
        s.says("-2: there are none such.");
        s.refuses(-2, "visits(#,0)", NO_WIDOWS);
        s.refuses(-2, "visits(0,#)", NO_CELLS);
        s.refusesWithoutColony(-2, "visits(0,0)");
        s.told(ONE + "widow 0 0 faces 1 steps 9 at 1 grief on;", "visits(0,3)=-2 visits(1,0)=-2");
    }

    private void straight() {
        s.of(17);
        s.says("STRAIGHT from her first cell to her last one.");
        s.told(Colonies.TWO_YEARS, "straight(0)=3 straight(1)=1 rate(1,4)=5 straight(1)=0");
        s.told(Colonies.SHUT_IN, "straight(0)=0");
        // round the creek as she went; and, when it is bridged, by 10, 20, 21 to 11
        s.told("colony years 1 law 0 odds 0 wide 3 high 2;creek 1 0;widow 0 0 faces 1 steps 4 at 0 grief on left;",
                "at(0,1)=1 at(0,2)=11 at(0,3)=21 at(0,4)=20 straight(0)=4 bridge(10)=4 straight(0)=2");
        s.says("NONE, -2 as steps()");
        s.told(Colonies.TWO_YEARS, "keeps(1)=3 straight(1)=-1");
        s.told(ONE + "widow 0 0 faces 1 steps 9 at 1 grief on;creek 0 0;", "straight(0)=-1");
        s.refuses(-2, "straight(#)", NO_WIDOWS);
        s.refusesWithoutColony(-2, "straight(0)");
        s.says("-3: there is no way, one of them has a CREEK");
        s.told(Colonies.CREEK_AT_HOME, "straight(0)=-3 bridge(10)=1 straight(0)=0 undo()=0 straight(0)=-3");
        // out of a creek one goes: 10, 0; back into it one does not
        s.told("colony years 1 law 0 odds 0 wide 2 high 2;widow 1 0 faces 3 steps 1 at 0 grief on;creek 1 0;",
                "at(0,1)=0 straight(0)=-3 steps(0)=1 stands(0)=0");
        s.says("(also if they are one).");
        s.told("colony years 1 law 0 odds 0 wide 2 high 2;widow 0 0 faces 0 steps 1 at 0 grief on;creek 0 0;creek 1 0;"
                + "creek 0 1;", "at(0,1)=0 stands(0)=1 straight(0)=-3 bridge(0)=0 straight(0)=0");
    }

    private void years() {
        s.of("II");
        s.says("In YEAR 0 there is no ROAD.");
        s.told(Colonies.TWO_YEARS, "roads(0)=0 pegs(0)=0 road(0,0)=0 road(2,0)=0 first(0)=1");
        s.says("WIDOWS walk in each YEAR ahead of the last in which they are told");
        s.told(Colonies.TWO_YEARS, "road(2,1)=0 road(2,2)=1 roads(1)=4 roads(2)=8");
        s.told("colony years 12 law 0 odds 0 wide 2 high 2;widow 0 0 faces 1 steps 1 at 11 grief on;",
                "roads(11)=0 roads(12)=2 first(0)=12");
        s.told("colony years 11 law 0 odds 0 wide 2 high 2;widow 0 0 faces 1 steps 1 at 11 grief on;",
                "roads(11)=0 roads(12)=-2 first(0)=-1 steps(0)=-1");
        s.says("by numbers");
        // law 3: 0 goes first and to the end, 1 ends where 0 was; told the other way round it is otherwise
        s.told("colony years 1 law 3 odds 0 wide 4 high 2;widow 0 0 faces 1 steps 3 at 0 grief on;"
                + "widow 3 0 faces 3 steps 3 at 0 grief on;", "steps(0)=3 steps(1)=1");
        s.told("colony years 1 law 3 odds 0 wide 4 high 2;widow 3 0 faces 3 steps 3 at 0 grief on;"
                + "widow 0 0 faces 1 steps 3 at 0 grief on;", "steps(0)=3 at(0,3)=0 steps(1)=1");
        // a lesser number a year later comes later
        s.told("colony years 2 law 3 odds 0 wide 4 high 2;widow 0 0 faces 1 steps 3 at 1 grief on;"
                + "widow 3 0 faces 3 steps 3 at 0 grief on;", "steps(0)=1 steps(1)=3");
        s.says("so it is in the next YEAR.");
        s.told(Colonies.TWO_YEARS, "pegs(0)=0 pegs(1)=3 pegs(2)=6 house(0,0)=20 house(0,1)=1");
        s.told("colony years 3 law 0 odds 0 wide 2 high 2;widow 0 0 faces 1 steps 1 at 0 grief on;",
                "pegs(1)=1 pegs(2)=1 pegs(3)=1 roads(3)=2");
    }

    private void turns() {
        s.of("II");
        s.says("One walks her STEPS, one behind the other: first she turns by her grief");
        s.told(ONE + "widow 1 1 faces 0 steps 1 at 0 grief right;", "at(0,1)=21");
        s.told(ONE + "widow 1 1 faces 0 steps 1 at 0 grief back;", "at(0,1)=12");
        s.told(ONE + "widow 1 1 faces 0 steps 1 at 0 grief left;", "at(0,1)=1");
        s.told(ONE + "widow 1 1 faces 0 steps 1 at 0 grief on;", "at(0,1)=10");
        s.says("(its T in order, behind the last the first again; ");
        // right, left, right, left: a stair down from 0
        s.told("colony years 1 law 0 odds 0 wide 8 high 8;widow 0 0 faces 2 steps 5 at 0 grief left right;",
                "at(0,1)=10 at(0,2)=11 at(0,3)=21 at(0,4)=22 at(0,5)=32");
        // eight of them: the ninth step turns by the first one
        s.told("colony years 1 law 0 odds 0 wide 8 high 8;widow 0 0 faces 0 steps 10 at 0"
                + " grief right on on on on on on right;", "at(0,7)=70 at(0,8)=71 at(0,9)=61 at(0,10)=51");
        s.says("right: D 1 more, behind 3 comes 0)");
        s.told(ONE + "widow 1 1 faces 3 steps 1 at 0 grief right;", "at(0,1)=10");
        s.told(ONE + "widow 1 1 faces 2 steps 1 at 0 grief back;", "at(0,1)=10");
        s.told(ONE + "widow 1 1 faces 1 steps 1 at 0 grief left;", "at(0,1)=10");
        s.told(ONE + "widow 1 1 faces 3 steps 1 at 0 grief left;", "at(0,1)=12");
        s.told(ONE + "widow 1 1 faces 3 steps 1 at 0 grief back;", "at(0,1)=21");
        s.says("then, if the cell ahead is FREE, she goes there");
        s.told(Colonies.TWO_YEARS, "at(0,1)=10 at(0,2)=20 at(0,3)=30");
        s.says("if not, she turns right, and so on, three times at most");
        // out of the corner 0 facing 0: once; facing 3 with a creek at 10: twice; facing 2 with creeks at 1: three
        s.told(ONE + "widow 0 0 faces 0 steps 1 at 0 grief on;", "at(0,1)=10");
        s.told(ONE + "creek 1 0;widow 0 0 faces 3 steps 1 at 0 grief on;", "at(0,1)=1");
        s.told(ONE + "creek 0 1;widow 0 0 faces 2 steps 1 at 0 grief on;", "at(0,1)=10");
        // she goes on as she then faces: 20, 21, 22
        s.told(ONE + "widow 1 0 faces 1 steps 3 at 0 grief on;", "at(0,1)=20 at(0,2)=21 at(0,3)=22");
        s.says("if none is FREE, she stands (and faces as before these turns).");
        s.told(Colonies.SHUT_IN, "at(0,1)=0 at(0,2)=0 at(0,3)=0 stands(0)=3");
    }

    private void laws() {
        s.of("II");
        s.says("FREE by LAW, 0: a cell of the colony without a CREEK.");
        s.told(ONE + "creek 1 0;widow 0 0 faces 1 steps 1 at 0 grief on;", "at(0,1)=1 bridge(10)=1 at(0,1)=10");
        s.told("colony years 1 law 0 odds 0 wide 2 high 8;widow 1 7 faces 1 steps 2 at 0 grief on;",
                "at(0,1)=7 at(0,2)=6");
        edgesOfEight();
        s.says("1: so, and no ROAD as it was ahead of her walk");
        s.told(Colonies.SHUNNING, "at(1,1)=11");
        s.told("colony years 2 law 1 odds 0 wide 3 high 3;widow 0 0 faces 1 steps 2 at 0 grief on;"
                + "widow 0 1 faces 0 steps 4 at 1 grief on;", "at(1,1)=11 at(1,2)=21 at(1,3)=22 at(1,4)=12");
        // her own cells are no ROAD yet: she goes to and fro
        s.told("colony years 1 law 1 odds 0 wide 3 high 2;creek 0 1;creek 1 1;creek 2 1;"
                + "widow 0 0 faces 1 steps 3 at 0 grief on;", "at(0,3)=10");
        s.says("(with that of WIDOWS who walked ahead of her in this YEAR)");
        s.told(Colonies.SHUNNING, "at(1,0)=1 at(1,1)=11 at(1,2)=21 at(1,3)=22 at(1,4)=12 keeps(0)=4 at(1,1)=0");
        s.says("but if none of the four beside her is, all goes as 0 for this STEP.");
        s.told(Colonies.ALL_ROAD, "at(1,0)=0 at(1,1)=10 at(1,2)=11 stands(1)=0");
        // for this step alone: from 0, shut in by ROAD at 10 and 1, she faces on to 10, then shuns 0 and 20 for 11
        s.told("colony years 2 law 1 odds 0 wide 3 high 2;widow 1 0 faces 1 steps 1 at 0 grief on;"
                + "widow 0 0 faces 2 steps 1 at 0 grief on;widow 0 0 faces 1 steps 2 at 1 grief on;",
                "at(1,1)=1 at(2,1)=10 at(2,2)=11");
        s.says("2: so as 0, and none in which she has been in this walk (her first one, too)");
        s.told(Colonies.NO_STEP_BACK, "at(0,1)=0 at(0,2)=1 at(0,3)=11 at(0,4)=21 at(0,5)=20");
        // other widows' cells are free to her
        s.told("colony years 1 law 2 odds 0 wide 2 high 2;widow 0 0 faces 1 steps 3 at 0 grief on;"
                + "widow 0 0 faces 1 steps 3 at 0 grief on;", "at(1,1)=10 at(1,2)=11 at(1,3)=1");
        s.says("but if none of the four is, likewise.");
        s.told(Colonies.NO_STEP_BACK, "at(0,6)=21");
        s.told("colony years 1 law 2 odds 0 wide 2 high 2;widow 0 0 faces 1 steps 6 at 0 grief on;",
                "at(0,3)=1 at(0,4)=0 at(0,5)=10 at(0,6)=11");
        s.says("3: as 0; but her walk ends when she has come into a cell that was a ROAD ahead of it.");
        s.told(Colonies.ENDING, "steps(1)=2 at(1,2)=21 steps(2)=2 at(2,0)=21 at(2,1)=31 at(2,2)=21");
        // her own cells end nothing, her first cell that is ROAD ends nothing, and to stand in it neither
        s.told("colony years 1 law 3 odds 0 wide 2 high 2;widow 0 0 faces 1 steps 9 at 0 grief on;", "steps(0)=9");
        s.told("colony years 1 law 3 odds 0 wide 2 high 2;creek 1 0;creek 0 1;widow 0 0 faces 1 steps 2 at 0 grief on;"
                + "widow 0 0 faces 1 steps 3 at 0 grief on;", "steps(0)=2 steps(1)=3 stands(1)=3");
    }

    /** From the sides and corners of 8 by 8 she turns right where there is no cell, and never comes out elsewhere. */
    private void edgesOfEight() {
        int[][] sides = {{3, 0, 0, 40}, {7, 4, 1, 75}, {3, 7, 2, 27}, {0, 4, 3, 3},
            {0, 0, 0, 10}, {0, 0, 3, 10}, {7, 0, 0, 71}, {7, 0, 1, 71}, {7, 7, 1, 67}, {7, 7, 2, 67}, {0, 7, 2, 6},
            {0, 7, 3, 6}, {7, 6, 1, 77}, {1, 7, 2, 7}, {0, 1, 3, 0}, {6, 0, 0, 70}};
        for (int[] side : sides) {
            s.told("colony years 1 law 0 odds 0 wide 8 high 8;widow " + side[0] + " " + side[1] + " faces " + side[2]
                    + " steps 1 at 0 grief on;", "at(0,1)=" + side[3] + " stands(0)=0 pegs(1)=1 roads(1)=2");
        }
    }

    private void pegging() {
        s.of("II");
        s.says("Behind it, all cells in which she was are ROAD (her first one, too, with a CREEK or not)");
        s.told(Colonies.TWO_YEARS, "road(0,1)=1 road(10,1)=1 road(20,1)=1 road(30,1)=1 roads(1)=4");
        s.told(Colonies.CREEK_AT_HOME, "creek(10)=1 road(10,1)=1 roads(1)=3");
        s.told(Colonies.SHUT_IN, "road(0,1)=1 roads(1)=1");
        s.says("each STEP by which she went to another cell is PEGGED");
        s.told(Colonies.TWO_YEARS, "pegs(1)=3");
        s.told(Colonies.SHUT_IN, "pegs(1)=0");
        s.told(Colonies.CREEK_AT_HOME, "pegs(1)=2 joins(10,1)=8");
        // side by side is not joined: 0, 10, 11, 1 has no PEG from 1 to 0
        s.told("colony years 1 law 0 odds 0 wide 2 high 2;widow 0 0 faces 1 steps 3 at 0 grief on;",
                "pegs(1)=3 joins(0,1)=2 joins(1,1)=2");
        s.says("a PEG joins the two cells (both ways; only once).");
        s.told(Colonies.TWO_YEARS, "joins(0,1)=2 joins(10,1)=10 way(0,10,1)=1 way(10,0,1)=1");
        s.told("colony years 2 law 0 odds 0 wide 2 high 2;creek 0 1;creek 1 1;widow 0 0 faces 1 steps 40 at 0 grief on;"
                + "widow 1 0 faces 3 steps 1 at 1 grief on;", "pegs(1)=1 pegs(2)=1");
    }
}
