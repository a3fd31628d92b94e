/** Promises 1 to 5. */
final class TapeTest {
    private static final String HEAD = "colony years 2 law 0 odds 5 wide 8 high 3;";

    private static final Due due = new Due();

    public static void main(String[] args) {
        newObject();
        tape();
        colony();
        faultsOfForm();
        faultsOfNumbers();
        faultsOfCells();
        faultsOfMany();
        allStays();
        due.finish();
    }

    private static void newObject() {
        due.about("promise 1");
        WidowRoads x = new WidowRoads();
        due.all(x, "count(0)=0 count(1)=0 count(2)=0 count(3)=0 count(4)=0 count(5)=0 count(6)=0 count(7)=0 count(8)=0"
                + " count(9)=0 count(10)=0 count(11)=0 roads(0)=-2 road(0,0)=-2 creek(0)=-2 widow(0,0)=-2 house(0,0)=-2"
                + " evening(0)=-2 undo()=-2 anew()=-2 back(0)=-6 write(0,0,1)=-6 crossing()=-2 drawn(0,0)=-2"
                + " chance(0,0)=-2 mean(0)=-2 share(0,0)=-1000000 gets(0,1,0,0)=-1000 worth(0)=-2 bridge(0)=-2");
    }

    private static void tape() {
        due.about("promises 2, 3");
        WidowRoads x = new WidowRoads();
        due.all(x, "end(-1)=-1 end(1)=-1 end(0)=0 feed(0,0,0,0,0)=20 end(21)=-1 count(10)=20 end(7)=7 count(10)=7"
                + " feed(-1,2147483647,-2147483648,0,1)=27 end(27)=27 end(2147483647)=-1 end(-2147483648)=-1");
        for (int i = 2; i <= 44; i++) {
            due.is("feed", x.feed(i, i, i, i, i), 7 + 20 * i);
        }
        due.all(x, "feed(1,1,1,1,1)=-1 count(10)=887 end(881)=881 feed(1,1,1,1,1)=-1 count(10)=881 end(880)=880"
                + " feed(1,1,1,1,1)=900 feed(1,1,1,1,1)=-1 end(900)=900 end(0)=0");
        due.about("promise 2, highest byte first");
        // "colony years 1 law 0 odds 0 wide 2 high 2;" is 42 bytes
        due.is("feed", x.feed(0x636F6C6F, 0x6E792079, 0x65617273, 0x2031206C, 0x61772030), 20);
        due.is("feed", x.feed(0x206F6464, 0x73203020, 0x77696465, 0x20322068, 0x69676820), 40);
        due.is("feed", x.feed(0x323B0000, 0, 0, 0, 0), 60);
        due.all(x, "end(42)=42 colony()=1 count(3)=2 count(10)=0");
    }

    private static void colony() {
        due.about("promise 4");
        WidowRoads x = new WidowRoads();
        due.is("no line", Due.tell(x, " \n "), 0);
        due.all(x, "count(10)=0 count(9)=0 fault(0)=0 fault(1)=-1");
        due.is("five lines", Due.tell(x, Colonies.TWO_YEARS), 5);
        due.all(x, "count(10)=0 count(9)=5 fault(0)=0 fault(1)=-1 keeps(0)=3 count(8)=1");
        due.is("another one", Due.tell(x, Colonies.SHUNNING), 3);
        due.all(x, "count(8)=0 count(5)=0 count(6)=0 count(7)=2 pegs(1)=6 roads(2)=-2 worth(1)=2");
        due.is("blanks where they need not be, none where they may be left out",
                Due.tell(x, "colony\nyears2law0odds5wide3high3;creek0 2;\n\n widow 1 1faces0steps007at1griefonleft right"
                        + " back;"), -4);
        due.is("griefonleft is one word", x.fault(1), 71);
        due.is("tokens without blanks",
                Due.tell(x, "colony\nyears2law0odds5wide3high3;creek0 2;\n\n widow 1 1faces0steps007at1grief on left"
                        + " right\nback;  "), 3);
        due.all(x, "widow(0,2)=7 widow(0,4)=4 creek(2)=1 count(4)=3 grief(0,0)=0 grief(0,1)=3");
        due.is("another one", Due.tell(x, "colony years 3 law 2 odds 9 wide 4 high 4;house 1 1;"), 2);
        due.is("0 lines in place of some", x.colony(), 0);
        due.all(x, "count(9)=0 roads(0)=-2 widow(0,0)=-2 undo()=-2 count(0)=0 count(1)=0 count(2)=0 count(3)=0"
                + " count(4)=0 count(5)=0 count(6)=0 count(7)=0 road(0,0)=-2 creek(0)=-2 chance(0,0)=-2 worth(0)=-2");
        due.is("the most of all", Due.tell(x, "colony years 12 law 3 odds 10 wide 8 high 8;"
                + "creek 7 0;creek 7 1;creek 7 2;creek 7 3;creek 7 4;creek 7 5;creek 7 6;creek 7 7;creek 6 0;creek 6 1;"
                + "creek 6 2;creek 6 3;house 0 0;house 0 1;house 0 2;house 0 3;house 0 4;house 0 5;"
                + many("widow 0 7 faces 3 steps 40 at 11 grief on on on on on on on back;", 7)), 26);
        due.all(x, "count(0)=12 count(5)=12 count(6)=6 count(7)=7 count(9)=26 widow(6,2)=40 widow(6,3)=11 widow(6,4)=8"
                + " grief(6,7)=2 grief(6,8)=-1 steps(0)=40 steps(6)=1 house(5,11)=5 house(5,12)=15 pegs(11)=0 pegs(12)=7");
    }

    private static String many(String line, int n) {
        return line.repeat(n);
    }

    /** A text that has a fault: which, and its place. */
    private static void fault(String text, int which, int place) {
        WidowRoads x = new WidowRoads();
        due.is(text, Due.tell(x, text), -4);
        due.is("fault(0) of " + text, x.fault(0), which);
        due.is("fault(1) of " + text, x.fault(1), place);
        due.is("lines of " + text, x.count(9), 0);
    }

    private static void faultsOfForm() {
        due.about("promise 5, fault 1");
        WidowRoads x = new WidowRoads();
        due.all(x, "fault(0)=0 fault(1)=-1 fault(2)=-1 fault(-1)=-1");
        fault("creek 1 1;", 1, 0);
        fault("  house 1 1;", 1, 2);
        fault(";", 1, 0);
        fault("7", 1, 0);
        fault("Colony years 2", 1, 0);
        fault("colonyx years 2", 1, 0);
        fault("colon years 2", 1, 0);
        fault("colony", 1, 6);
        fault("colony  ", 1, 8);
        fault("colony\tyears 2", 1, 6);
        fault("colony\ryears 2", 1, 6);
        fault("colony" + (char) 0 + "years 2", 1, 6);
        fault("colony" + (char) 233 + "years 2", 1, 6);
        fault("colony law 2", 1, 7);
        fault("colony years;", 1, 12);
        fault("colony years x", 1, 13);
        fault("colony years -1", 1, 13);
        fault("colony years 2 law 0 odds 5 wide 8 high 3", 1, 41);
        fault("colony years 2 law 0 odds 5 wide 8 high 3 3;", 1, 42);
        fault(HEAD + ";", 1, 42);
        fault(HEAD + HEAD, 1, 42);
        fault(HEAD + "1", 1, 42);
        fault(HEAD + "cree 1 1;", 1, 42);
        fault(HEAD + "dreek 1 1;", 1, 42);
        fault(HEAD + "creekz 1 1;", 1, 42);
        fault(HEAD + "creek{ 1 1;", 1, 47);
        fault(HEAD + "creek` 1 1;", 1, 47);
        fault(HEAD + "creek 1: 1;", 1, 49);
        fault(HEAD + "creek 1/ 1;", 1, 49);
        fault(HEAD + "creek 1;", 1, 49);
        fault(HEAD + "creek 1 1", 1, 51);
        fault(HEAD + "creek 1 1 ", 1, 52);
        fault(HEAD + "creek 1 1 creek", 1, 52);
        fault(HEAD + "creek 1, 1;", 1, 49);
        fault(HEAD + "widow 0 0 steps 1 at 0 grief on;", 1, 52);
        fault(HEAD + "widow 0 0 faces 1 at 0 grief on;", 1, 60);
        fault(HEAD + "widow 0 0 faces 1 steps 1 grief on;", 1, 68);
        fault(HEAD + "widow 0 0 faces 1 steps 1 at 0;", 1, 72);
        fault(HEAD + "widow 0 0 faces 1 steps 1 at 0 grief;", 1, 78);
        fault(HEAD + "widow 0 0 faces 1 steps 1 at 0 grief up;", 1, 79);
        fault(HEAD + "widow 0 0 faces 1 steps 1 at 0 grief in;", 1, 79);
        fault(HEAD + "widow 0 0 faces 1 steps 1 at 0 grief on up;", 1, 82);
        fault(HEAD + "widow 0 0 faces 1 steps 1 at 0 grief on 1;", 1, 82);
        fault(HEAD + "widow 0 0 faces 1 steps 1 at 0 grief on", 1, 81);
    }

    private static void faultsOfNumbers() {
        due.about("promise 5, fault 2, bounds");
        fault("colony years 0 law 9;", 2, 13);
        fault("colony years 13", 2, 13);
        fault("colony years 99999999999999999999", 2, 13);
        fault("colony years 4294967297", 2, 13);
        fault("colony years 1 law 4", 2, 19);
        fault("colony years 1 law 3 odds 11", 2, 26);
        fault("colony years 1 law 3 odds 10 wide 1", 2, 34);
        fault("colony years 1 law 3 odds 10 wide 9", 2, 34);
        fault("colony years 1 law 3 odds 10 wide 2 high 1", 2, 41);
        fault("colony years 1 law 3 odds 10 wide 2 high 9", 2, 41);
        fault(HEAD + "creek 8 0;", 2, 48);
        fault(HEAD + "creek 8 3;", 2, 48);
        fault(HEAD + "creek 7 3;", 2, 50);
        fault(HEAD + "house 8 0;", 2, 48);
        fault(HEAD + "house 0 3;", 2, 50);
        fault(HEAD + "widow 8 0", 2, 48);
        fault(HEAD + "widow 0 3", 2, 50);
        fault(HEAD + "widow 0 0 faces 4", 2, 58);
        fault(HEAD + "widow 0 0 faces 0 steps 0", 2, 66);
        fault(HEAD + "widow 0 0 faces 0 steps 41", 2, 66);
        fault(HEAD + "widow 0 0 faces 0 steps 1 at 12", 2, 71);
        due.is("year 11 of 2 years may be told",
                Due.tell(new WidowRoads(), HEAD + "widow 0 0 faces 0 steps 1 at 11 grief on;"), 2);
    }

    private static void faultsOfCells() {
        due.about("promise 5, fault 2, cells");
        fault(HEAD + "creek 1 1;creek 1 1;", 2, 60);
        fault(HEAD + "creek 1 1;house 1 1;", 2, 60);
        fault(HEAD + "creek 1 1;widow 1 1 up", 2, 60);
        fault(HEAD + "house 1 1;house 1 1;", 2, 60);
        WidowRoads x = new WidowRoads();
        due.is("creek behind house and widow, widows and houses in one cell", Due.tell(x, HEAD + "house 1 1;"
                + "widow 1 1 faces 0 steps 1 at 0 grief on;widow 1 1 faces 0 steps 1 at 0 grief on;creek 1 1;"), 5);
    }

    private static void faultsOfMany() {
        due.about("promise 5, fault 3");
        String creeks = "creek 0 0;creek 1 0;creek 2 0;creek 3 0;creek 4 0;creek 5 0;creek 6 0;creek 7 0;creek 0 1;"
                + "creek 1 1;creek 2 1;creek 3 1;";
        fault(HEAD + creeks + "creek", 3, 162);
        fault(HEAD + creeks + " creek 4 1;", 3, 163);
        fault(HEAD + "house 0 0;house 0 1;house 0 2;house 1 0;house 1 1;house 1 2;house", 3, 102);
        String widow = "widow 0 0 faces 0 steps 1 at 0 grief on;";
        fault(HEAD + many(widow, 7) + "widow", 3, 322);
        fault(HEAD + "widow 0 0 faces 0 steps 1 at 0 grief on on on on on on on on back;", 3, 103);
        fault(HEAD + "widow 0 0 faces 0 steps 1 at 0 grief on on on on on on on on on", 3, 103);
        fault(HEAD + "widow 0 0 faces 0 steps 1 at 0 grief on on on on on on on on up;", 1, 103);
        fault(HEAD + many(widow, 7) + "widows", 1, 322);
    }

    private static void allStays() {
        due.about("promise 4, all stays with a fault");
        WidowRoads x = Due.told(Colonies.TWO_YEARS);
        due.all(x, "bridge(11)=7");
        due.is("a fault", Due.tell(x, "colony years 2 up"), -4);
        due.all(x, "count(9)=5 count(8)=1 pegs(2)=7 count(10)=17 colony()=-4 fault(0)=1 fault(1)=15 end(15)=15");
        Due.put(x, "law 0 odds 5 wide 8 high 3;");
        due.all(x, "count(10)=42 fault(0)=1 colony()=1 fault(0)=0 fault(1)=-1 count(8)=0 count(3)=8");
    }
}
