/** Promises 1 to 5, term I, tokens and faults, sentence by sentence. */
final class EdgesOfTape {
    private static final String HEAD = "colony years 2 law 0 odds 5 wide 8 high 3;";
    private static final String WIDOW = "widow 0 0 faces 0 steps 1 at 0 grief on;";
    private static final String CREEKS = "creek 0 0;creek 1 0;creek 2 0;creek 3 0;creek 4 0;creek 5 0;creek 6 0;creek 7 0;"
            + "creek 0 1;creek 1 1;creek 2 1;creek 3 1;";
    private static final String MORE_HOUSES = "house 7 7;house 7 6;house 0 2;house 7 5;house 7 4;house 1 2;";
    private static final String HOUSES = "house 0 0;house 0 1;house 0 2;house 1 0;house 1 1;house 1 2;";

    private final Sentences s;

    private EdgesOfTape(Sentences s) {
        this.s = s;
    }

    static void hold(Sentences s) {
        EdgesOfTape edges = new EdgesOfTape(s);
        edges.newObject();
        edges.feeding();
        edges.cutting();
        edges.reading();
        edges.faultsTold();
        edges.form();
        edges.bounds();
        edges.cells();
        edges.numbering();
        edges.tokens();
        edges.places();
        edges.kinds();
    }

    private void newObject() {
        s.of(1);
        s.says("No COLONY.");
        WidowRoads x = new WidowRoads();
        s.all(x, "fault(0)=0 fault(1)=-1 creek(0)=-2 widow(0,0)=-2 grief(0,0)=-2 at(0,0)=-2 steps(0)=-2 stands(0)=-2"
                + " ground(0)=-2 loop(0)=-2 haunt(0)=-2 evening(0)=-2 visits(0,0)=-2 straight(0)=-2 road(0,0)=-2"
                + " roads(0)=-2 pegs(0)=-2 joins(0,0)=-2 corners(0,0)=-2 nets(0)=-2 missing(0)=-2 rings(0)=-2"
                + " bridges(0)=-2 net(0,0)=-2 way(0,0,0)=-2 beeline(0,0)=-2 farthest(0,0)=-2 crossing()=-2"
                + " shared(0,0)=-2 walked(0)=-2 first(0)=-2 line(0)=-2 house(0,0)=-2 moved(0)=-2 moves(0)=-2"
                + " served(0)=-2 cover()=-2 covers()=-2 blame()=-2 ford()=-2 faced(0,0)=-2 griefs(0,0)=-2 ask(0,0)=-2"
                + " leaves(0,0)=-2 laws(0)=-2 by(0)=-2 law()=-2 worth(0)=-2 share(0,0)=-1000000 rests(0,1)=-2"
                + " gets(0,1,0,0)=-1000 chance(0,0)=-2 mean(0)=-2 bridge(0)=-2 keeps(0)=-2 undo()=-2 anew()=-2"
                + " drawn(0,0)=-2 luck(0,1,0)=-2 rate(0,1)=-2 back(0)=-6 back(1)=-6 back(2)=-6");
        s.all(x, "count(0)=0 count(1)=0 count(2)=0 count(3)=0 count(4)=0 count(5)=0 count(6)=0 count(7)=0 count(8)=0"
                + " count(9)=0 count(10)=0 count(11)=0 write(0,0,0)=-6 write(3,0,0)=-6 paste(0,0,0,0,0)=-6 colony()=0");
    }

    private void feeding() {
        s.of(2);
        s.says("Twenty bytes come behind the TAPE, four of each number, the highest first: how many it has");
        WidowRoads x = new WidowRoads();
        s.all(x, "feed(0,0,0,0,0)=20 feed(-1,2147483647,-2147483648,1,0)=40 end(7)=7 feed(0,0,0,0,0)=27 end(0)=0");
        // "colony years 1 law 0 odds 0 wide 2 high 2;": the first byte that can't stand is the 43rd, 0
        s.is("feed", x.feed(0x636F6C6F, 0x6E792079, 0x65617273, 0x2031206C, 0x61772030), 20);
        s.is("feed", x.feed(0x206F6464, 0x73203020, 0x77696465, 0x20322068, 0x69676820), 40);
        s.is("feed", x.feed(0x323B0020, 0, 0, 0, 0), 60);
        s.all(x, "colony()=-4 fault(0)=1 fault(1)=42 end(42)=42 colony()=1 count(0)=1 count(3)=2 count(4)=2");
        s.says("NONE, and none come, if it would have more than 900");
        s.all(tapeOf(880), "feed(1,2,3,4,5)=900 count(10)=900");
        s.all(tapeOf(881), "feed(1,2,3,4,5)=-1 count(10)=881 end(880)=880 feed(1,2,3,4,5)=900");
        s.all(tapeOf(900), "feed(0,0,0,0,0)=-1 feed(-1,-1,-1,-1,-1)=-1 count(10)=900 end(900)=900");
        s.refusesBehind(Histories::full, -1, "feed(1,2,3,4,5)");
        s.refusesBehind(() -> tapeOf(890), -1, "feed(1,2,3,4,5)");
        // all 900 bytes are read, the last one is the sign
        x = new WidowRoads();
        Due.put(x, " ".repeat(900 - HEAD.length()) + HEAD);
        s.all(x, "count(10)=900 colony()=1 count(10)=0 feed(0,0,0,0,0)=20");
    }

    private static WidowRoads tapeOf(int bytes) {
        WidowRoads x = new WidowRoads();
        Due.put(x, HEAD + " ".repeat(bytes / 20 * 20 + (bytes % 20 == 0 ? 0 : 20) - HEAD.length()));
        x.end(bytes);
        return x;
    }

    private void cutting() {
        s.of(3);
        s.says("The TAPE has its first n bytes alone: n");
        WidowRoads x = new WidowRoads();
        s.all(x, "end(0)=0 feed(0,0,0,0,0)=20 end(20)=20 end(19)=19 count(10)=19 end(1)=1 end(0)=0 count(10)=0");
        Due.put(x, HEAD + "creek 0 0;creek 0 0;");
        s.all(x, "end(52)=52 colony()=2 count(5)=1");
        Due.put(x, HEAD + "creek 0 0;");
        s.is("end", x.end(42), 42);
        Due.put(x, "house 1 1;");
        s.all(x, "count(10)=52 colony()=2 count(5)=0 count(6)=1");
        s.says("NONE, and nothing happens, if it has not so many");
        s.all(new WidowRoads(), "end(1)=-1 end(20)=-1 feed(0,0,0,0,0)=20 end(21)=-1 count(10)=20");
        s.refuses(-1, "end(#)", "42 43 60 900 901 2147483647");
        s.refusesBehind(Histories::full, -1, "end(901)");
        s.refusesBehind(WidowRoads::new, -1, "end(1)");
        s.says("or n is below 0");
        s.refuses(-1, "end(#)", "-1 -41 -2147483648");
        s.refusesBehind(WidowRoads::new, -1, "end(-1)");
    }

    private void reading() {
        s.of(4);
        s.says("The TAPE (empty then) is the COLONY (in place of another)");
        WidowRoads x = Due.told(Colonies.TWO_YEARS);
        s.all(x, "count(10)=0 count(3)=4 count(9)=5 at(1,5)=1");
        s.is("colony()", Due.tell(x, Colonies.SHUNNING), 3);
        s.all(x, "count(10)=0 count(0)=1 count(1)=1 count(2)=0 count(3)=3 count(4)=3 count(5)=0 count(6)=0 count(7)=2"
                + " creek(11)=0 creek(30)=-2 house(0,0)=-2 at(1,4)=12 pegs(1)=6 pegs(2)=-2 first(30)=-2");
        s.says("nothing done");
        x = Due.told(Colonies.TWO_YEARS);
        s.all(x, "rate(1,1)=5 bridge(11)=4 keeps(0)=1 count(8)=2");
        s.is("colony()", Due.tell(x, Colonies.TWO_YEARS), 5);
        s.all(x, "count(8)=0 undo()=-5 anew()=0 creek(11)=1 steps(0)=3 widow(1,2)=5 pegs(2)=6");
        s.says("how many LINES");
        s.lines("colony years 1 law 0 odds 0 wide 2 high 2;", 1);
        s.lines(HEAD + WIDOW.repeat(7), 8);
        s.lines(HEAD.replace("high 3", "high 8") + CREEKS + MORE_HOUSES + WIDOW.replace("0 0", "0 7").repeat(7), 26);
        s.says("(0: there is none then)");
        s.lines("", 0);
        s.lines(" ", 0);
        s.lines("\n \n  ", 0);
        s.lines(" ".repeat(900), 0);
        x = Due.told(Colonies.TWO_YEARS);
        s.all(x, "keeps(0)=3 image(0)=0 row(0,0,3)=0 colony()=0 count(9)=0 count(8)=0 count(0)=0 count(3)=0 count(7)=0"
                + " roads(0)=-2 creek(0)=-2 undo()=-2 keeps(0)=-2 crossing()=-2 count(11)=1 fault(0)=0 fault(1)=-1"
                + " back(0)=0 count(8)=1 pegs(2)=3");
        s.told(Colonies.BARE.replace("high 8", "high 7") + "creek 1 1;house 2 2;" + WIDOW, "colony()=0 count(0)=0 count(1)=0"
                + " count(2)=0 count(3)=0 count(4)=0 count(5)=0 count(6)=0 count(7)=0 count(8)=0 count(9)=0 count(10)=0");
        s.says("-4: a FAULT (all stays)");
        faultStays();
    }

    /** Behind a fault all but the fault itself is as if there had been no call: colony, acts, tape, rows, images. */
    private void faultStays() {
        WidowRoads x = Histories.rich();
        s.all(x, "count(10)=41 colony()=-4 count(10)=41 fault(0)=1 fault(1)=41 colony()=-4");
        String[] with = Histories.probe(x);
        String[] without = Histories.probe(Histories.rich());
        for (int i = 2; i < with.length; i++) {
            s.is("behind colony() " + with[i] + ", due is " + without[i], with[i].equals(without[i]) ? 1 : 0, 1);
        }
        x = new WidowRoads();
        Due.put(x, "colony");
        s.all(x, "colony()=-4 count(9)=0 count(10)=6 roads(0)=-2 end(0)=0 colony()=0 fault(0)=0");
        // what was read ahead of the fault is not there either
        x = Due.told(Colonies.SHUNNING);
        s.is("colony()", Due.tell(x, HEAD + CREEKS + "house 4 1;" + WIDOW.replace("0 0", "5 1") + "x"), -4);
        s.all(x, "count(0)=1 count(3)=3 count(5)=0 count(6)=0 count(7)=2 count(9)=3 at(1,4)=12 creek(0)=0");
    }

    private void faultsTold() {
        s.of(5);
        s.says("Of the latest colony(), what 0: its FAULT");
        WidowRoads x = new WidowRoads();
        s.is("colony()", Due.tell(x, "creek"), -4);
        s.all(x, "fault(0)=1");
        s.is("colony()", Due.tell(x, "colony years 13"), -4);
        s.all(x, "fault(0)=2 fault(0)=2");
        s.is("colony()", Due.tell(x, HEAD + HOUSES + "house"), -4);
        s.all(x, "fault(0)=3 end(0)=0 feed(0,0,0,0,0)=20 image(0)=0 back(0)=0 row(0,0,0)=0 fault(0)=3");
        s.says("0 without");
        s.is("colony()", Due.tell(x, HEAD), 1);
        s.all(x, "fault(0)=0 colony()=0 fault(0)=0");
        s.all(new WidowRoads(), "fault(0)=0");
        s.says("1: its place (NONE without)");
        s.is("colony()", Due.tell(x, " creek"), -4);
        s.all(x, "fault(1)=1 fault(1)=1");
        s.is("colony()", Due.tell(x, HEAD + HOUSES + "house"), -4);
        s.all(x, "fault(1)=102 end(0)=0 feed(0,0,0,0,0)=20 fault(1)=102");
        s.is("colony()", Due.tell(x, HEAD), 1);
        s.all(x, "fault(1)=-1 colony()=0 fault(1)=-1");
        s.says("NONE for another what");
        s.refuses(-1, "fault(#)", "-1 2 3 2147483647 -2147483648");
        s.refusesWithoutColony(-1, "fault(2)");
        s.says("and ahead of any (what 1)");
        s.all(new WidowRoads(), "fault(1)=-1 feed(0,0,0,0,0)=20 fault(1)=-1 end(0)=0 fault(1)=-1 fault(0)=0 fault(2)=-1");
    }

    private void form() {
        s.of("I");
        s.says("COLONY: {LINE ;}.");
        s.fault(HEAD + "creek 0 0", 1, 51);
        s.fault(HEAD + "creek 0 0;;", 1, 52);
        s.fault(";", 1, 0);
        s.fault(HEAD + "creek 0 0 house 1 1;", 1, 52);
        s.says("LINE: colony years N law N odds N wide N high N");
        s.fault("colony law 0 odds 5 wide 8 high 3;", 1, 7);
        s.fault("colony years 2 odds 5 wide 8 high 3;", 1, 15);
        s.fault("colony years 2 law 0 wide 8 high 3;", 1, 21);
        s.fault("colony years 2 law 0 odds 5 high 3;", 1, 28);
        s.fault("colony years 2 law 0 odds 5 wide 8;", 1, 34);
        s.fault("colony years law 0;", 1, 13);
        s.fault("colony 2 years", 1, 7);
        s.fault(HEAD.replace(";", " 3;"), 1, 42);
        s.says("| creek X Y | house X Y");
        s.fault(HEAD + "creek;", 1, 47);
        s.fault(HEAD + "creek 0;", 1, 49);
        s.fault(HEAD + "creek 0 0 0;", 1, 52);
        s.fault(HEAD + "house;", 1, 47);
        s.fault(HEAD + "house 0;", 1, 49);
        s.fault(HEAD + "house 0 0 0;", 1, 52);
        s.says("| widow X Y faces D steps N at N grief T {T}.");
        s.fault(HEAD + "widow;", 1, 47);
        s.fault(HEAD + "widow 0 faces 0", 1, 50);
        s.fault(HEAD + "widow 0 0;", 1, 51);
        s.fault(HEAD + "widow 0 0 steps 1", 1, 52);
        s.fault(HEAD + "widow 0 0 faces steps 1", 1, 58);
        s.fault(HEAD + "widow 0 0 faces 0 at 0", 1, 60);
        s.fault(HEAD + "widow 0 0 faces 0 steps 1 grief on;", 1, 68);
        s.fault(HEAD + "widow 0 0 faces 0 steps 1 at 0 on;", 1, 73);
        s.fault(HEAD + "widow 0 0 faces 0 steps 1 at 0 grief;", 1, 78);
        s.says("T: on | left | right | back.");
        s.lines(HEAD + WIDOW.replace("on", "on left right back"), 2);
        s.fault(HEAD + WIDOW.replace("on", "up"), 1, 79);
        s.fault(HEAD + WIDOW.replace("on", "on up"), 1, 82);
        s.fault(HEAD + WIDOW.replace("on", "0"), 1, 79);
        s.says("colony is the first LINE and no other");
        s.fault("creek 0 0;" + HEAD, 1, 0);
        s.fault("house 0 0;" + HEAD, 1, 0);
        s.fault(WIDOW + HEAD, 1, 0);
        s.fault(HEAD + HEAD, 1, 42);
        s.fault(HEAD + "creek 0 0;" + HEAD, 1, 52);
    }

    /** A number's least and most are taken; one less and one more are at fault, at the number. */
    private void bound(String ahead, int least, int most, String behind) {
        int lines = (ahead + least + behind).split(";").length;
        s.lines(ahead + least + behind, lines);
        s.lines(ahead + most + behind, lines);
        s.fault(ahead + (most + 1) + behind, 2, ahead.length());
        s.fault(ahead + "4294967296" + behind, 2, ahead.length());
        s.fault(ahead + "18446744073709551617" + behind, 2, ahead.length());
        s.fault(ahead + "-1" + behind, 1, ahead.length());
        if (least > 0) {
            s.fault(ahead + (least - 1) + behind, 2, ahead.length());
        }
    }

    private void bounds() {
        s.of("I");
        s.says("years 1 .. 12");
        bound("colony years ", 1, 12, " law 0 odds 5 wide 8 high 3;");
        s.says("law 0 .. 3");
        bound("colony years 1 law ", 0, 3, " odds 5 wide 8 high 3;");
        s.says("odds 0 .. 10");
        bound("colony years 1 law 0 odds ", 0, 10, " wide 8 high 3;");
        s.says("wide, high 2 .. 8");
        bound("colony years 1 law 0 odds 5 wide ", 2, 8, " high 3;");
        bound("colony years 1 law 0 odds 5 wide 8 high ", 2, 8, ";");
        s.says("X 0 .. wide less 1");
        for (int wide = 2; wide <= 8; wide++) {
            String head = HEAD.replace("wide 8", "wide " + wide);
            bound(head + "creek ", 0, wide - 1, " 0;");
            bound(head + "house ", 0, wide - 1, " 0;");
            bound(head + "widow ", 0, wide - 1, " 0 faces 0 steps 1 at 0 grief on;");
        }
        s.says("Y 0 .. high less 1");
        for (int high = 2; high <= 8; high++) {
            String head = HEAD.replace("high 3", "high " + high);
            bound(head + "creek 0 ", 0, high - 1, ";");
            bound(head + "house 0 ", 0, high - 1, ";");
            bound(head + "widow 0 ", 0, high - 1, " faces 0 steps 1 at 0 grief on;");
        }
        s.says("widow: faces D (0: Y less, 1: X more, 2: Y more, 3: X less)");
        bound(HEAD + "widow 0 0 faces ", 0, 3, " steps 1 at 0 grief on;");
        for (int d = 0; d < 4; d++) {
            int[] cells = {10, 21, 12, 1};
            s.told("colony years 1 law 0 odds 0 wide 3 high 3;widow 1 1 faces " + d + " steps 1 at 0 grief on;",
                    "at(0,1)=" + cells[d]);
        }
        s.says("steps 1 .. 40");
        bound(HEAD + "widow 0 0 faces 0 steps ", 1, 40, " at 0 grief on;");
        s.says("at 0 .. 11");
        bound(HEAD + "widow 0 0 faces 0 steps 1 at ", 0, 11, " grief on;");
        s.says("1 .. 8 T");
        s.fault(HEAD + WIDOW.replace(" on", " "), 1, 79);
        s.lines(HEAD + WIDOW, 2);
        s.lines(HEAD + WIDOW.replace("on", "on left right back on left right back"), 2);
        s.fault(HEAD + WIDOW.replace("on", "on left right back on left right back on"), 3, 117);
    }

    private void cells() {
        s.of("I");
        s.says("creek: in no cell with a CREEK told ahead");
        s.fault(HEAD + "creek 1 1;creek 1 1;", 2, 60);
        s.fault(HEAD + "creek 1 1;creek 2 1;creek 1 1;", 2, 70);
        s.lines(HEAD + "creek 1 1;creek 1 2;creek 2 1;", 4);
        s.says("house, widow: in no cell with a CREEK told ahead");
        s.fault(HEAD + "creek 1 1;house 1 1;", 2, 60);
        s.fault(HEAD + "creek 1 1;" + WIDOW.replace("0 0", "1 1"), 2, 60);
        s.says("houses not in one another's");
        s.fault(HEAD + "house 1 1;house 1 1;", 2, 60);
        s.fault(HEAD + "house 1 1;house 2 1;house 1 1;", 2, 70);
        s.lines(HEAD + "house 0 0;" + WIDOW + WIDOW, 4);
        s.lines(HEAD + WIDOW + "house 0 0;" + WIDOW, 4);
        s.says("(A creek told behind may lie where one is.)");
        s.lines(HEAD + "house 1 1;creek 1 1;", 3);
        s.lines(HEAD + WIDOW + "house 0 0;creek 0 0;", 4);
        s.fault(HEAD + "house 1 1;creek 1 1;house 1 1;", 2, 70);
        s.told(HEAD + "house 1 1;creek 1 1;", "creek(11)=1 house(0,0)=11 house(0,2)=11");
    }

    private void numbering() {
        s.of("I");
        s.says("CREEKS 0 .. 11, HOUSES 0 .. 5, WIDOWS 0 .. 6 are numbered as they stand.");
        s.told(HEAD.replace("high 3", "high 8") + CREEKS + MORE_HOUSES + WIDOW.replace("0 0", "0 7").repeat(6)
                        + WIDOW.replace("0 0", "1 7"),
                "count(5)=12 count(6)=6 count(7)=7 house(0,0)=77 house(1,0)=76 house(2,0)=2 house(3,0)=75 house(4,0)=74"
                + " house(5,0)=12 house(6,0)=-2 widow(0,0)=7 widow(5,0)=7 widow(6,0)=17 widow(7,0)=-2 walked(7)=63"
                + " walked(17)=64 creek(31)=1 creek(41)=0");
        full();
        s.says("YEARS 0 .. years.");
        s.told(Colonies.BARE, "roads(0)=0 roads(12)=0 roads(13)=-2 roads(-1)=-2");
        s.told("colony years 1 law 0 odds 0 wide 2 high 2;", "roads(0)=0 roads(1)=0 roads(2)=-2");
        s.says("A cell is told as 10 times X, and Y.");
        s.told(HEAD + "creek 7 2;" + "house 0 2;" + WIDOW.replace("0 0", "6 0"), "creek(72)=1 creek(27)=-2 house(0,0)=2"
                + " widow(0,0)=60 at(0,0)=60 at(0,1)=70");
    }

    /**
     * As many of all as there may be. Widow 0 moves all houses from 0 .. 5 to 6, 7, 10 .. 13, widow 1 the first two to 14,
     * 15, widow 2 to 16, 17; widows 3 to 5 peg 57 - 56; widow 6 is shut in, in 77, by the last two creeks.
     */
    private void full() {
        s.told("colony years 12 law 0 odds 10 wide 8 high 8;creek 7 0;creek 7 1;creek 7 2;creek 7 3;creek 7 4;creek 7 5;"
                + "creek 6 0;creek 6 1;creek 6 2;creek 6 3;creek 7 6;creek 6 7;house 0 0;house 0 1;house 0 2;house 0 3;"
                + "house 0 4;house 0 5;widow 0 0 faces 2 steps 5 at 0 grief on;widow 0 6 faces 2 steps 1 at 1 grief on;"
                + "widow 1 4 faces 2 steps 1 at 11 grief on;" + "widow 5 7 faces 0 steps 1 at 11 grief on;".repeat(3)
                + "widow 7 7 faces 0 steps 3 at 11 grief on;",
                "house(0,0)=0 house(5,0)=5 house(0,1)=6 house(1,1)=7 house(2,1)=10 house(5,1)=13 house(0,2)=14 house(1,11)=15"
                + " house(0,12)=16 house(1,12)=17 house(5,12)=13 moved(0)=3 moved(1)=3 moved(2)=1 moved(5)=1 moves(0)=6"
                + " moves(1)=2 moves(2)=2 moves(6)=0 served(0)=0 served(1)=5 served(12)=6 evening(0)=1 evening(1)=2"
                + " evening(11)=124 evening(12)=-2 pegs(1)=5 pegs(11)=6 pegs(12)=8 roads(12)=13 cover()=5 covers()=79"
                + " blame()=0 ford()=11 worth(127)=8 share(3,0)=1 share(3,1)=3 share(6,0)=0 stands(6)=3 walked(56)=56"
                + " gets(0,6,0,0)=-6 rests(0,6)=2 chance(0,0)=0 chance(0,1)=1 by(0)=8 by(1)=9 law()=1 bridge(67)=11 at(6,3)=47"
                + " widow(6,0)=77 widow(7,0)=-2 house(6,0)=-2 count(9)=26");
    }

    private void tokens() {
        s.of("TOKENS");
        s.says("blanks (32, 10) aside");
        s.lines("\n\n colony\nyears  2\n law 0 odds 5 wide 8 high 3 ; \n", 1);
        for (int sign : new int[] {0, 9, 11, 12, 13, 31, 33, 127, 128, 160, 255}) {
            s.fault("colony" + (char) sign + "years 2", 1, 6);
        }
        s.says("the longest");
        s.lines("colony years2law0odds5wide8high3;creek1 1;", 2);
        s.fault("colonyyears 2 law 0", 1, 0);
        s.fault(HEAD + "creek 11;", 2, 48);
        s.fault(HEAD + WIDOW.replace("on", "onleft"), 1, 79);
        s.fault(HEAD + WIDOW.replace("on", "o n"), 1, 79);
        s.fault("colony years 1 2 law 0", 1, 15);
        s.says("words (a .. z)");
        s.fault("colonyz years 2", 1, 0);
        s.fault("acolony years 2", 1, 0);
        s.fault("dolony years 2", 1, 0);
        s.fault("colonx years 2", 1, 0);
        s.fault("Colony", 1, 0);
        s.fault("coLony", 1, 0);
        s.fault("colony`", 1, 6);
        s.fault("colony{", 1, 6);
        s.fault("colony@", 1, 6);
        s.fault("colony[", 1, 6);
        s.fault("colony_years", 1, 6);
        s.says("numbers (digits)");
        s.lines("colony years 002 law 0000000000000000003 odds 010 wide 8 high 3;", 1);
        s.fault("colony years 2/", 1, 14);
        s.fault("colony years 2:", 1, 14);
        s.fault("colony years +2", 1, 13);
        s.fault("colony years 2.0", 1, 14);
        s.says("the sign ; .");
        s.fault(HEAD.replace(';', '.'), 1, 41);
        s.fault(HEAD.replace(';', ','), 1, 41);
        s.fault(HEAD.replace(';', ':'), 1, 41);
        s.fault(HEAD.replace(';', '<'), 1, 41);
    }

    private void places() {
        s.of("FAULTS");
        s.says("the first by its place");
        s.fault("colony years 13 law 4 up", 2, 13);
        s.fault("colony years 1 up law 4", 1, 15);
        s.fault(HEAD + "creek 8 9;creek", 2, 48);
        s.fault(HEAD + "creek 0 0;creek 0 0 @", 2, 60);
        s.fault(HEAD + CREEKS + "creek 9 9;@", 3, 162);
        s.fault("@ colony years 13", 1, 0);
        s.says("(a TOKEN's first byte; the end's)");
        s.fault("   colony   years   13", 2, 20);
        s.fault("   colony   yearsx   13", 1, 12);
        s.fault("colony", 1, 6);
        s.fault("colony \n ", 1, 9);
        s.fault(HEAD + "creek 0 0", 1, 51);
        s.fault(HEAD + " ".repeat(849) + "creek 0 0", 1, 900);
        s.says("of one place the least");
        s.fault(HEAD + CREEKS.substring(0, CREEKS.length() - 1) + " creek 4 1;", 1, 162);
        s.fault(HEAD + HOUSES.substring(0, HOUSES.length() - 1) + " house 2 2;", 1, 102);
        s.fault(HEAD + WIDOW.repeat(7).replaceAll(";$", " ") + WIDOW, 1, 322);
    }

    private void kinds() {
        s.of("FAULTS");
        s.says("1 a TOKEN that is none");
        s.fault("?", 1, 0);
        s.fault(HEAD + "?", 1, 42);
        s.fault(HEAD + "creek ? 0;", 1, 48);
        s.fault(HEAD + "creek 0 0?;", 1, 51);
        s.fault(HEAD + WIDOW.replace("on", "on?"), 1, 81);
        s.says("or can't stand there (colony behind the first LINE, another word ahead of it)");
        s.fault(HEAD + "colony", 1, 42);
        s.fault(HEAD + "creek 0 0;colony", 1, 52);
        s.fault("creek 0 0;", 1, 0);
        s.fault("years 2", 1, 0);
        s.fault("5", 1, 0);
        s.fault(HEAD + "5", 1, 42);
        s.fault(HEAD + "years 2;", 1, 42);
        s.says("2 a number out of its bounds, not as said (of a cell: Y)");
        s.fault("colony years 0", 2, 13);
        s.fault(HEAD + "creek 8 0;", 2, 48);
        s.fault(HEAD + "creek 0 3;", 2, 50);
        s.fault(HEAD + "creek 1 2;creek  1  2;", 2, 62);
        s.fault(HEAD + "creek 1 2;house 1 02;", 2, 60);
        s.says("3 a 13th creek, 7th house, 8th widow, at its word");
        s.lines(HEAD + CREEKS, 13);
        s.fault(HEAD + CREEKS + "creek 4 1;", 3, 162);
        s.fault(HEAD + CREEKS + " creek", 3, 163);
        s.fault(HEAD + CREEKS + "creek 0 0;", 3, 162);
        s.lines(HEAD + HOUSES, 7);
        s.fault(HEAD + HOUSES + "house 2 2;", 3, 102);
        s.fault(HEAD + HOUSES + "\nhouse", 3, 103);
        s.lines(HEAD + WIDOW.repeat(7), 8);
        s.fault(HEAD + WIDOW.repeat(8), 3, 322);
        s.fault(HEAD + WIDOW.repeat(7) + "widow", 3, 322);
        s.says("a 9th T of a widow, at its word");
        s.lines(HEAD + WIDOW.replace("on", "on on on on on on on on"), 2);
        s.fault(HEAD + WIDOW.replace("on", "on on on on on on on on back"), 3, 103);
        s.fault(HEAD + WIDOW.replace("on;", "on on on on on on on on  left"), 3, 104);
        s.fault(HEAD + WIDOW.replace("on", "on on on on on on on on up"), 1, 103);
        s.fault(HEAD + WIDOW.replace("on;", "on on on on on on on on"), 1, 102);
    }
}
