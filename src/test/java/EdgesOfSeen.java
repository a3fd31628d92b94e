/** Promises 44 to 50 and term VI, sentence by sentence. */
final class EdgesOfSeen {
    private static final String NO_WIDOWS = EdgesOfWalks.NO_WIDOWS;
    static final String NO_SLOTS = "-1 -2147483648 4 5 2147483647";
    private static final String[] OF_WIDOWS = {"faced", "griefs", "ask", "leaves"};

    /** In the middle of 5 by 5 each D leads elsewhere at once. */
    private static final String MIDDLE = "colony years 1 law 0 odds 0 wide 5 high 5;widow 2 2 faces 0 steps 2 at 0 grief on;";

    private final Sentences s;

    private EdgesOfSeen(Sentences s) {
        this.s = s;
    }

    static void hold(Sentences s) {
        EdgesOfSeen edges = new EdgesOfSeen(s);
        edges.term();
        edges.faced();
        edges.refused();
        edges.griefs();
        edges.asking();
        edges.laws();
        edges.by();
    }

    /** A row of slot 0, of width 3, with its numbers; then calls. */
    private void seen(String colony, String numbers, String rows) {
        WidowRoads x = Due.told(colony);
        see(x, numbers);
        s.all(x, rows);
    }

    private void see(WidowRoads x, String numbers) {
        String[] parts = numbers.isEmpty() ? new String[0] : numbers.split(" ");
        s.is("row", x.row(0, 3, parts.length), 0);
        for (int i = 0; i < parts.length; i++) {
            s.is("write", x.write(0, i, Long.parseLong(parts[i])), 0);
        }
    }

    private void term() {
        s.of("VI");
        s.says("SEEN: a SLOT's row, three numbers each: a WIDOW, a STEP (0: her first cell), her cell behind it");
        seen(Colonies.TWO_YEARS, "1 1 12 1 0 2 0 3 30", "laws(0)=15 faced(0,1)=1 faced(0,0)=11");
        seen(Colonies.TWO_YEARS, "1 0 2", "faced(0,1)=15 griefs(0,1)=15 laws(0)=15");
        seen(Colonies.TWO_YEARS, "1 0 12", "faced(0,1)=0 griefs(0,1)=0 laws(0)=0");
        s.says("one WIDOW faced otherwise at first (0 .. 3)");
        seen(MIDDLE, "0 1 21", "faced(0,0)=1");
        seen(MIDDLE, "0 1 32", "faced(0,0)=2 widow(0,1)=0 at(0,1)=21");
        seen(MIDDLE, "0 1 23", "faced(0,0)=4");
        seen(MIDDLE, "0 1 12", "faced(0,0)=8");
        s.says("or had another grief: one T alone (griefs())");
        seen(MIDDLE, "0 1 21", "griefs(0,0)=1");
        seen(MIDDLE, "0 1 32", "griefs(0,0)=2 widow(0,4)=1 grief(0,0)=0");
        seen(MIDDLE, "0 1 23", "griefs(0,0)=4");
        seen(MIDDLE, "0 1 12", "griefs(0,0)=8");
        // right alone, at each step: 22, 32, 33
        seen(MIDDLE, "0 2 33", "griefs(0,0)=2");
        s.says("all else as now.");
        // acts are there, her grief of two T is there while she faces otherwise
        seen(Colonies.TWO_YEARS, "1 2 11", "faced(0,1)=0 bridge(11)=7 faced(0,1)=1 undo()=0 faced(0,1)=0");
        seen(Colonies.TWO_YEARS, "0 1 10", "faced(0,1)=15 keeps(0)=3 faced(0,1)=0");
        seen(Colonies.IN_THE_WAY, "1 2 20", "faced(0,0)=14 keeps(0)=7 faced(0,0)=15 faced(0,1)=11");
    }

    private void faced() {
        s.of(44);
        s.says("SEEN (VI): D by which a WIDOW can have faced at first by a SLOT's row, as bits.");
        seen(Colonies.TWO_YEARS, "1 1 12", "faced(0,1)=1 faced(0,0)=15");
        seen(Colonies.TWO_YEARS, "1 1 1", "faced(0,1)=14");
        seen(Colonies.TWO_YEARS, "1 1 1 1 1 12", "faced(0,1)=0");
        seen(Colonies.TWO_YEARS, "", "faced(0,1)=15 faced(0,0)=15");
        // a step that she has not walked is in no cell
        seen(Colonies.TWO_YEARS, "1 6 1", "faced(0,1)=0");
        seen(Colonies.TWO_YEARS, "1 40 1", "faced(0,1)=0");
        seen(Colonies.TWO_YEARS, "1 1 12", "keeps(1)=3 faced(0,1)=0 faced(0,0)=0");
        seen("colony years 1 law 0 odds 0 wide 2 high 2;widow 0 0 faces 1 steps 1 at 1 grief on;", "0 0 0", "faced(0,0)=0");
        // a full row of sixty numbers, of every width
        for (int width = 0; width < 4; width++) {
            WidowRoads x = Due.told(Colonies.TWO_YEARS);
            x.row(3, width, 60);
            s.all(x, "faced(3,1)=15 write(3,57,1)=0 write(3,58,1)=0 write(3,59,12)=0 faced(3,1)=1 write(3,59,11)=0"
                    + " faced(3,1)=0");
        }
    }

    private void refused() {
        s.of(44);
        s.says("-2: there is no such SLOT, WIDOW");
        noSlotNorWidow("faced");
        s.says("a number is none such");
        noNumber(OF_WIDOWS);
        s.says("(asked last; ");
        // a widow who is none such is asked ahead of nothing; nothing ahead of numbers
        WidowRoads x = Due.told(Colonies.TWO_YEARS);
        s.all(x, "faced(0,0)=-6 faced(0,2)=-2 faced(4,0)=-2 faced(4,2)=-2 row(0,0,4)=0 faced(0,0)=-2 faced(1,0)=-6");
        s.says("STEPS 0 .. 40, cells of the colony)");
        seen(Colonies.TWO_YEARS, "0 0 0", "faced(0,0)=15");
        seen(Colonies.TWO_YEARS, "0 40 0", "faced(0,0)=0");
        seen(Colonies.TWO_YEARS, "0 41 0", "faced(0,0)=-2");
        seen(Colonies.TWO_YEARS, "0 0 32", "faced(0,0)=0");
        seen(Colonies.TWO_YEARS, "0 0 33", "faced(0,0)=-2");
        seen(Colonies.TWO_YEARS, "0 0 11", "creek(11)=1 faced(0,0)=0");
        s.says("not three each");
        for (int n = 0; n <= 60; n++) {
            s.told(Colonies.TWO_YEARS, "row(0,1," + n + ")=0 faced(0,0)=" + (n % 3 == 0 ? 15 : -2));
        }
        s.says("-6: it has nothing.");
        s.refuses(-6, "faced(3,#)", "0 1");
    }

    /** -2 and -6 of a call with a slot and a widow; in the rich history slot 3 has nothing. */
    private void noSlotNorWidow(String name) {
        s.refuses(-2, name + "(#,0)", NO_SLOTS);
        s.refuses(-2, name + "(0,#)", NO_WIDOWS);
        s.refuses(-2, name + "(3,#)", NO_WIDOWS);
        s.refusesWithoutColony(-2, name + "(0,0)");
        s.refusesWithoutColony(-2, name + "(3,0)");
        s.told(Colonies.BARE, "row(0,0,0)=0 " + name + "(0,0)=-2 " + name + "(1,0)=-2");
    }

    /** Each of three numbers in turn is none such, the first or the last of a row. */
    private void noNumber(String[] names) {
        String[] wrong = {"2 0 0", "-1 0 0", "7 0 0", "4294967296 0 0", "-9223372036854775808 0 0", "0 41 0", "0 -1 0",
            "0 4294967296 0", "0 0 3", "0 0 9", "0 0 40", "0 0 -1", "0 0 4294967296", "0 0 9223372036854775807"};
        for (String numbers : wrong) {
            for (String name : names) {
                String call = name.equals("laws") ? "laws(0)" : name + "(0,0)";
                s.refusesBehind(() -> withRow(numbers), -2, call);
                s.refusesBehind(() -> withRow("0 0 0 1 1 12 " + numbers), -2, call);
            }
        }
    }

    private static WidowRoads withRow(String numbers) {
        WidowRoads x = Histories.rich();
        String[] parts = numbers.split(" ");
        x.row(0, 3, parts.length);
        for (int i = 0; i < parts.length; i++) {
            x.write(0, i, Long.parseLong(parts[i]));
        }
        return x;
    }

    private void griefs() {
        s.of(45);
        s.says("T (0 .. 3) that alone can have been her grief by such a row, as bits.");
        seen(Colonies.TWO_YEARS, "1 1 12", "griefs(0,1)=2 griefs(0,0)=15");
        seen(Colonies.TWO_YEARS, "1 1 1", "griefs(0,1)=13");
        seen(Colonies.TWO_YEARS, "", "griefs(0,1)=15");
        seen(Colonies.TWO_YEARS, "1 6 1", "griefs(0,1)=0");
        // her own grief of two T is none of them: 2, 12, 22, 12 is by no one T
        seen(Colonies.TWO_YEARS, "1 1 12 1 2 22 1 3 12", "laws(0)=11 griefs(0,1)=0");
        s.says("-2, -6 likewise.");
        noSlotNorWidow("griefs");
        s.refuses(-6, "griefs(3,#)", "0 1");
        s.told(Colonies.TWO_YEARS, "row(0,1,1)=0 griefs(0,0)=-2 row(0,1,2)=0 griefs(0,0)=-2");
    }

    private void asking() {
        s.of(46);
        s.says("The STEP of which to know her cell leaves fewest of faced() at worst");
        seen(MIDDLE, "", "ask(0,0)=1 leaves(0,0)=1");
        seen(Colonies.TWO_YEARS, "", "ask(0,1)=1 leaves(0,1)=3");
        // at the upper side D 0 and 1 lead to one cell: two are left at worst
        seen("colony years 1 law 0 odds 0 wide 5 high 3;widow 2 0 faces 1 steps 1 at 0 grief on;", "",
                "ask(0,0)=1 leaves(0,0)=2");
        // widow 1 comes to 40 if widow 0 did not go to 30: D 2 and 3 are left, and her first cell parts them
        seen("colony years 1 law 3 odds 0 wide 5 high 3;widow 2 0 faces 1 steps 1 at 0 grief on;"
                + "widow 3 2 faces 0 steps 3 at 0 grief on;", "1 3 40", "at(0,1)=30 steps(1)=2 faced(0,0)=12 ask(0,0)=1"
                + " leaves(0,0)=1");
        s.says("if fewer than now");
        seen(Colonies.TWO_YEARS, "1 1 1", "faced(0,1)=14 ask(0,1)=-1");
        s.says("the first of several");
        seen(MIDDLE, "0 0 22", "faced(0,0)=15 ask(0,0)=1");
        s.says("(she has not walked so far: one more cell).");
        // facing 1 she ends with her first step, by law 3; facing otherwise she has a second one
        String ends = "colony years 1 law 3 odds 0 wide 3 high 2;widow 1 0 faces 2 steps 1 at 0 grief on;"
                + "widow 0 1 faces 1 steps 2 at 0 grief on;";
        seen(ends, "", "at(1,1)=11 steps(1)=1 faced(0,1)=15 ask(0,1)=1 leaves(0,1)=3");
        ended();
        s.says("NONE: none");
        seen(MIDDLE, "0 1 21", "faced(0,0)=1 ask(0,0)=-1");
        seen(MIDDLE, "0 1 44", "faced(0,0)=0 ask(0,0)=-1");
        seen(MIDDLE, "", "keeps(0)=0 faced(0,0)=15 ask(0,0)=-1");
        s.says("-2, -6 likewise.");
        noSlotNorWidow("ask");
        s.refuses(-6, "ask(3,#)", "0 1");
        s.told(Colonies.TWO_YEARS, "row(0,1,1)=0 ask(0,0)=-2 row(0,1,2)=0 ask(0,0)=-2");

        s.of(47);
        s.says("How many it leaves at worst (as now without).");
        seen(MIDDLE, "", "leaves(0,0)=1");
        seen(MIDDLE, "0 1 21", "leaves(0,0)=1");
        seen(MIDDLE, "0 1 44", "leaves(0,0)=0");
        seen(Colonies.TWO_YEARS, "1 1 1", "leaves(0,1)=3");
        seen(MIDDLE, "", "keeps(0)=0 leaves(0,0)=4");
        s.says("-2, -6 likewise.");
        noSlotNorWidow("leaves");
        s.refuses(-6, "leaves(3,#)", "0 1");
        s.told(Colonies.TWO_YEARS, "row(0,1,1)=0 leaves(0,0)=-2 row(0,1,2)=0 leaves(0,0)=-2");
    }

    /**
     * From 0, facing 0, 1 or 3, she goes to 10, that is ROAD, and ends; facing 2 she goes to 1 and comes back to 0. Step
     * 1 parts them, and so does step 2: the one in 0, the others nowhere.
     */
    private void ended() {
        String corner = "colony years 1 law 3 odds 0 wide 3 high 2;creek 1 1;widow 1 0 faces 1 steps 1 at 0 grief on;"
                + "widow 0 0 faces 1 steps 2 at 0 grief on;";
        seen(corner, "", "at(1,1)=10 at(1,2)=-1 faced(0,1)=15 ask(0,1)=1 leaves(0,1)=3");
        seen(corner, "1 1 10", "faced(0,1)=11 ask(0,1)=-1 leaves(0,1)=3");
        seen(corner, "1 2 0", "faced(0,1)=4 ask(0,1)=-1 leaves(0,1)=1");
    }

    private void laws() {
        s.of(48);
        s.says("LAWS (0 .. 3) by which it is as such a row tells, as bits.");
        seen(Colonies.TWO_YEARS, "", "laws(0)=15");
        seen(Colonies.TWO_YEARS, "1 1 12", "laws(0)=15 count(1)=0");
        seen(Colonies.TWO_YEARS, "1 3 21", "laws(0)=4");
        seen(Colonies.TWO_YEARS, "1 6 1", "laws(0)=0");
        seen(Colonies.SHUNNING, "1 1 11", "laws(0)=2");
        seen(Colonies.ENDING, "1 3 31", "laws(0)=5");
        seen(Colonies.IN_THE_WAY, "1 1 10", "laws(0)=13");
        s.says("-2 (WIDOW aside; ");
        s.refuses(-2, "laws(#)", NO_SLOTS);
        noNumber(new String[] {"laws"});
        s.told(Colonies.TWO_YEARS, "row(0,1,1)=0 laws(0)=-2 row(0,1,2)=0 laws(0)=-2 row(0,1,59)=0 laws(0)=-2");
        s.told(Colonies.BARE, "row(0,0,0)=0 laws(0)=15 row(0,0,3)=0 laws(0)=-2");
        s.says("no COLONY)");
        s.refusesWithoutColony(-2, "laws(0)");
        s.refusesWithoutColony(-2, "laws(3)");
        s.says("-6 likewise.");
        s.refuses(-6, "laws(#)", "3");
        s.told(Colonies.BARE, "laws(0)=-6 laws(3)=-6");
    }

    private void by() {
        s.of(49);
        s.says("PEGS in the last YEAR by a LAW in place of the one told.");
        s.told(Colonies.TWO_YEARS, "by(0)=6 by(1)=6 by(2)=7 by(3)=6 pegs(2)=6 count(1)=0");
        s.told(Colonies.SHUNNING, "by(0)=4 by(1)=6 by(2)=4 by(3)=3 pegs(1)=6 count(1)=1 keeps(0)=4 by(1)=4");
        s.told(Colonies.BARE, "by(0)=0 by(3)=0");
        s.says("-2: there is none such (0 .. 3)");
        s.refuses(-2, "by(#)", "-1 -2147483648 4 5 2147483647");
        s.says("no COLONY.");
        s.refusesWithoutColony(-2, "by(0)");
        s.refusesWithoutColony(-2, "by(4)");

        s.of(50);
        s.says("The LAW by which there are most, the least of several.");
        s.told(Colonies.TWO_YEARS, "law()=2 keeps(1)=3 law()=0 anew()=1 law()=2");
        s.told(Colonies.SHUNNING, "law()=1");
        s.told(Colonies.BARE, "law()=0 count(1)=3");
        s.says("-2: there is no COLONY.");
        s.refusesWithoutColony(-2, "law()");
    }
}
