/** Promises 57 to 60 and 63 to 66, sentence by sentence. */
final class EdgesOfActs {
    private static final String NO_CELLS = EdgesOfWalks.NO_CELLS;
    private static final String NO_WIDOWS = EdgesOfWalks.NO_WIDOWS;

    private final Sentences s;

    private EdgesOfActs(Sentences s) {
        this.s = s;
    }

    static void hold(Sentences s) {
        EdgesOfActs edges = new EdgesOfActs(s);
        edges.bridge();
        edges.keeps();
        edges.takenBack();
        edges.rate();
        edges.count();
        edges.images();
    }

    private void bridge() {
        s.of(57);
        s.says("A cell is bridged for all YEARS (its CREEK is none; ");
        s.told(Colonies.TWO_YEARS, "creek(11)=1 bridge(11)=7 creek(11)=0 beeline(10,12)=2 count(5)=1 count(8)=1 at(1,2)=11");
        // told in all years: the widow of year 0 goes through it, too
        s.told("colony years 2 law 0 odds 0 wide 3 high 2;creek 1 0;widow 0 0 faces 1 steps 2 at 0 grief on;"
                + "widow 0 0 faces 1 steps 2 at 1 grief on;", "at(0,1)=1 at(1,1)=1 bridge(10)=2 at(0,1)=10 at(1,1)=10 pegs(1)=2");
        // the last cell, with a widow 0 who is not kept in by it
        s.told("colony years 1 law 0 odds 0 wide 8 high 8;creek 7 7;widow 7 6 faces 2 steps 1 at 0 grief on;",
                "at(0,1)=66 creek(77)=1 bridge(77)=1 creek(77)=0 at(0,1)=77 undo()=0 creek(77)=1");
        s.says("without one, too)");
        s.told(Colonies.TWO_YEARS, "bridge(0)=6 count(8)=1 creek(0)=0 bridge(32)=6 count(8)=2 bridge(0)=6 count(8)=3");
        // bridged again is one act more
        s.told(Colonies.TWO_YEARS, "bridge(11)=7 bridge(11)=7 count(8)=2 undo()=1 creek(11)=0 undo()=0 creek(11)=1");
        s.says("PEGS in the last YEAR then.");
        s.told(Colonies.TWO_YEARS, "pegs(2)=6 bridge(11)=7 pegs(2)=7");
        s.told(Colonies.BARE, "bridge(0)=0 bridge(77)=0");
        s.says("-2: there is no such cell");
        s.refuses(-2, "bridge(#)", NO_CELLS);
        s.refusesWithoutColony(-2, "bridge(0)");
        s.says("-5: there were 30 acts.");
        s.refusesBehind(Histories::full, -5, "bridge(11)");
        s.refusesBehind(Histories::full, -5, "bridge(0)");
        s.refusesBehind(Histories::full, -2, "bridge(3)");
        WidowRoads x = Due.told(Colonies.TWO_YEARS);
        for (int i = 1; i <= 30; i++) {
            s.all(x, "bridge(0)=6 count(8)=" + i);
        }
        s.all(x, "bridge(0)=-5 bridge(11)=-5 keeps(0)=-5 count(8)=30 creek(11)=1 undo()=29 bridge(11)=7 bridge(0)=-5"
                + " anew()=30 bridge(0)=6 count(8)=1");
    }

    private void keeps() {
        s.of(58);
        s.says("A WIDOW is kept in (she does not walk)");
        s.told(Colonies.TWO_YEARS, "keeps(0)=3 steps(0)=-1 at(0,0)=-1 evening(0)=0 road(0,1)=0 house(0,1)=20 steps(1)=5");
        s.told(Colonies.TWO_YEARS, "keeps(0)=3 keeps(0)=3 count(8)=2 undo()=1 steps(0)=-1 undo()=0 steps(0)=3");
        s.told("colony years 1 law 0 odds 0 wide 2 high 2;widow 0 0 faces 1 steps 1 at 1 grief on;", "keeps(0)=0 count(8)=1");
        // no creek is bridged by it
        s.told("colony years 1 law 0 odds 0 wide 2 high 2;creek 0 0;creek 1 0;widow 0 1 faces 1 steps 1 at 0 grief on;"
                + "widow 0 1 faces 1 steps 1 at 0 grief on;", "keeps(0)=1 creek(0)=1 creek(10)=1 keeps(1)=0 creek(0)=1 creek(10)=1");
        s.says("PEGS in the last YEAR then.");
        s.told(Colonies.TWO_YEARS, "keeps(0)=3 pegs(2)=3 keeps(1)=0 pegs(2)=0");
        // one less in the way may make more of them
        s.told(Colonies.IN_THE_WAY, "pegs(1)=2 keeps(0)=7");
        s.says("-2, -5 likewise.");
        s.refuses(-2, "keeps(#)", NO_WIDOWS);
        s.refusesWithoutColony(-2, "keeps(0)");
        s.told(Colonies.BARE, "keeps(0)=-2 count(8)=0");
        s.refusesBehind(Histories::full, -5, "keeps(0)");
        s.refusesBehind(Histories::full, -5, "keeps(1)");
        s.refusesBehind(Histories::full, -2, "keeps(2)");
        WidowRoads x = Due.told(Colonies.TWO_YEARS);
        for (int i = 1; i <= 30; i++) {
            s.all(x, "keeps(0)=3 count(8)=" + i);
        }
        s.all(x, "keeps(1)=-5 steps(1)=5 bridge(11)=-5 count(8)=30 undo()=29 keeps(1)=0 keeps(1)=-5");
    }

    private void takenBack() {
        s.of(59);
        s.says("The latest act is taken back: how many there are.");
        s.told(Colonies.TWO_YEARS, "bridge(11)=7 keeps(0)=5 undo()=1 creek(11)=0 steps(0)=3 pegs(2)=7 undo()=0 creek(11)=1"
                + " pegs(2)=6");
        s.says("-2: there is no COLONY");
        s.refusesWithoutColony(-2, "undo()");
        s.says("-5: there is none.");
        s.refusesBehind(() -> Due.told(Colonies.TWO_YEARS), -5, "undo()");
        s.told(Colonies.TWO_YEARS, "undo()=-5 bridge(0)=6 undo()=0 undo()=-5 keeps(0)=3 anew()=1 undo()=-5");
        // what is rated is no act
        s.told(Colonies.TWO_YEARS, "rate(0,1)=3 undo()=-5 widow(0,2)=1");

        s.of(60);
        s.says("All are: how many there were.");
        s.told(Colonies.TWO_YEARS, "anew()=0 bridge(11)=7 anew()=1 keeps(0)=3 bridge(11)=5 keeps(1)=0 anew()=3 count(8)=0"
                + " creek(11)=1 steps(0)=3 steps(1)=5 pegs(2)=6 anew()=0");
        WidowRoads x = Histories.full();
        s.all(x, "count(8)=30 anew()=30 count(8)=0 pegs(2)=6");
        s.told(Colonies.TWO_YEARS, "rate(0,1)=3 keeps(1)=1 anew()=1 widow(0,2)=1");
        s.says("-2 likewise.");
        s.refusesWithoutColony(-2, "anew()");
    }

    private void rate() {
        s.of(63);
        s.says("STEPS of a WIDOW are n (1 .. 40) from now on: what they were.");
        s.told(Colonies.TWO_YEARS, "rate(0,1)=3 widow(0,2)=1 steps(0)=1 pegs(1)=1 house(0,1)=20 rate(0,40)=1 steps(0)=40"
                + " rate(0,3)=40 pegs(2)=6 rate(0,3)=3 count(8)=0");
        s.told("colony years 1 law 0 odds 0 wide 2 high 2;widow 0 0 faces 1 steps 9 at 1 grief on;",
                "rate(0,4)=9 widow(0,2)=4 steps(0)=-1");
        s.says("-2: there are none such");
        s.refusesBehind(() -> Due.told(Colonies.TWO_YEARS), -2, "rate(0,0)");
        s.refusesBehind(() -> Due.told(Colonies.TWO_YEARS), -2, "rate(0,41)");
        s.refusesBehind(() -> Due.told(Colonies.TWO_YEARS), -2, "rate(2,1)");
        s.refuses(-2, "rate(#,1)", NO_WIDOWS);
        s.refuses(-2, "rate(0,#)", "0 -1 -2147483648 41 42 2147483647");
        s.refusesWithoutColony(-2, "rate(0,1)");
        s.says("-5: there are acts that are not taken back.");
        s.refuses(-5, "rate(0,#)", "1 4 40");
        s.refuses(-5, "rate(1,#)", "1 5 40");
        s.refusesBehind(Histories::full, -5, "rate(0,1)");
        s.told(Colonies.TWO_YEARS, "bridge(0)=6 rate(0,1)=-5 rate(0,0)=-2 rate(2,1)=-2 undo()=0 rate(0,1)=3 keeps(1)=1"
                + " rate(0,2)=-5 anew()=1 rate(0,2)=1");
    }

    private void count() {
        s.of(64);
        s.says("0 years, 1 LAW, 2 odds, 3 wide, 4 high, 5 CREEKS told, 6 HOUSES, 7 WIDOWS, 8 acts, 9 LINES");
        s.told("colony years 12 law 3 odds 10 wide 8 high 7;creek 0 0;creek 0 1;creek 0 2;house 1 1;house 1 2;"
                + "widow 5 5 faces 0 steps 1 at 0 grief on;", "count(0)=12 count(1)=3 count(2)=10 count(3)=8 count(4)=7"
                + " count(5)=3 count(6)=2 count(7)=1 count(8)=0 count(9)=7");
        // CREEKS told, not those that are left; HOUSES that are GONE, WIDOWS who are kept in, too
        s.told(Colonies.TWO_YEARS, "bridge(11)=7 keeps(0)=5 count(5)=1 count(7)=2 count(8)=2 count(9)=5");
        s.told(Colonies.GONE, "house(0,2)=-1 count(6)=2");
        s.all(new WidowRoads(), "count(0)=0 count(1)=0 count(2)=0 count(3)=0 count(4)=0 count(5)=0 count(6)=0 count(7)=0"
                + " count(8)=0 count(9)=0");
        s.says("10 bytes of the TAPE");
        s.all(new WidowRoads(), "count(10)=0 feed(0,0,0,0,0)=20 count(10)=20 end(3)=3 count(10)=3 end(0)=0 count(10)=0");
        s.all(Histories.full(), "count(10)=900");
        s.says("11 SLOTS that have a row.");
        s.all(new WidowRoads(), "count(11)=0 row(3,0,0)=0 count(11)=1 row(3,3,60)=0 count(11)=1 row(0,0,61)=-2"
                + " row(0,0,-1)=-3 count(11)=1 row(0,0,1)=0 row(1,0,1)=0 row(2,0,1)=0 count(11)=4");
        s.says("NONE for others.");
        s.refuses(-1, "count(#)", "-1 -2147483648 12 13 2147483647");
        s.refusesWithoutColony(-1, "count(12)");
    }

    private void images() {
        s.of(65);
        s.says("IMAGE k (0 .. 2) keeps the COLONY, and acts: 0.");
        WidowRoads x = Due.told(Colonies.TWO_YEARS);
        s.all(x, "image(0)=0 keeps(0)=3 image(1)=0 bridge(11)=5 image(2)=0 anew()=2 rate(1,1)=5 pegs(2)=4 back(0)=0"
                + " count(8)=0 pegs(2)=6 widow(1,2)=5 back(1)=0 count(8)=1 pegs(2)=3 back(2)=0 count(8)=2 pegs(2)=5");
        // other acts since then are no acts of it
        s.told(Colonies.TWO_YEARS, "keeps(0)=3 image(0)=0 undo()=0 bridge(11)=7 keeps(1)=3 back(0)=0 count(8)=1 steps(0)=-1"
                + " creek(11)=1 steps(1)=5 undo()=0 steps(0)=3 pegs(2)=6");
        // in place of what it had; no colony is kept, too
        s.all(x, "image(0)=0 undo()=1 back(0)=0 count(8)=2 colony()=0 image(0)=0 back(1)=0 count(9)=5 back(0)=0 count(9)=0");
        s.all(new WidowRoads(), "image(2)=0 back(2)=0 count(9)=0 back(1)=-6");
        // thirty acts are kept
        s.all(Histories.full(), "image(2)=0 anew()=30 back(2)=0 count(8)=30 keeps(0)=-5 undo()=29");
        s.says("-2: no such k.");
        s.refuses(-2, "image(#)", "-1 -2147483648 3 4 2147483647");
        s.refusesWithoutColony(-2, "image(3)");
        s.refusesWithoutColony(-2, "image(-1)");

        s.of(66);
        s.says("It is as IMAGE k has it: 0.");
        x = Due.told(Colonies.TWO_YEARS);
        s.all(x, "rate(0,1)=3 bridge(11)=6 image(0)=0");
        s.is("another colony", Due.tell(x, Colonies.SHUNNING), 3);
        s.all(x, "image(1)=0 back(0)=0 count(9)=5 count(8)=1 widow(0,2)=1 creek(11)=0 pegs(2)=6 undo()=0 creek(11)=1"
                + " back(0)=0 count(8)=1 back(1)=0 count(9)=3 count(8)=0 pegs(1)=6 at(1,4)=12");
        // tape, rows and faults are no part of it
        s.all(x, "row(0,0,3)=0 feed(0,0,0,0,0)=20 colony()=-4 back(0)=0 count(11)=1 count(10)=20 fault(0)=1 fault(1)=0");
        s.says("-2: no such k");
        s.refuses(-2, "back(#)", "-1 -2147483648 3 4 2147483647");
        s.refusesWithoutColony(-2, "back(3)");
        s.refusesWithoutColony(-2, "back(-1)");
        s.says("-6: it has nothing.");
        s.refuses(-6, "back(#)", "2");
        s.refusesBehind(Histories::none, -6, "back(2)");
        s.refusesBehind(WidowRoads::new, -6, "back(0)");
        s.refusesBehind(WidowRoads::new, -6, "back(1)");
        s.refusesBehind(WidowRoads::new, -6, "back(2)");
        s.refusesBehind(() -> Due.told(Colonies.TWO_YEARS), -6, "back(0)");
    }
}
