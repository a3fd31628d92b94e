/** Promises 57 to 63. */
final class ActTest {
    private static final Due due = new Due();

    public static void main(String[] args) {
        bridges();
        keeping();
        takingBack();
        mostActs();
        drawing();
        rates();
        due.finish();
    }

    private static void bridges() {
        due.about("promise 57");
        WidowRoads x = Due.told(Colonies.TWO_YEARS);
        due.all(x, "bridge(3)=-2 bridge(-1)=-2 bridge(40)=-2 count(8)=0 bridge(0)=6 count(8)=1 bridge(11)=7 count(8)=2"
                + " bridge(11)=7 count(8)=3 creek(11)=0 at(1,2)=11 at(1,5)=30 nets(2)=1 nets(1)=1 undo()=2 creek(11)=0"
                + " undo()=1 creek(11)=1 house(0,2)=21");
    }

    private static void keeping() {
        due.about("promise 58");
        WidowRoads x = Due.told(Colonies.TWO_YEARS);
        due.all(x, "keeps(2)=-2 keeps(-1)=-2 count(8)=0 keeps(1)=3 count(8)=1 steps(1)=-1 evening(1)=0 evening(0)=1"
                + " keeps(1)=3 count(8)=2 undo()=1 steps(1)=-1 undo()=0 steps(1)=5");
        due.about("promise 58 bridges nothing, promise 57 keeps no one in");
        due.all(Due.told("colony years 1 law 0 odds 0 wide 2 high 2;creek 0 0;widow 0 1 faces 1 steps 1 at 0 grief on;"),
                "keeps(0)=0 creek(0)=1 undo()=0 bridge(0)=1 creek(0)=0 steps(0)=1");
    }

    private static void takingBack() {
        due.about("promises 59, 60");
        WidowRoads x = Due.told(Colonies.TWO_YEARS);
        due.all(x, "undo()=-5 anew()=0 bridge(11)=7 keeps(0)=5 undo()=1 pegs(2)=7 keeps(1)=3 anew()=2 count(8)=0"
                + " pegs(2)=6 undo()=-5 anew()=0");
        due.all(new WidowRoads(), "undo()=-2 anew()=-2");
    }

    private static void mostActs() {
        due.about("30 acts");
        WidowRoads x = Due.told(Colonies.TWO_YEARS);
        for (int i = 0; i < 30; i++) {
            due.is("act", i % 2 == 0 ? x.bridge(0) : x.keeps(0), i == 0 ? 6 : 3);
        }
        due.all(x, "count(8)=30 bridge(11)=-5 keeps(1)=-5 bridge(3)=-2 keeps(2)=-2 creek(11)=1 steps(1)=5 undo()=29"
                + " bridge(11)=5 keeps(1)=-5 anew()=30 count(8)=0 keeps(1)=3");
    }

    /** From seed 0: 12345, 1406932606, 654583775, 1449466924, 229283573, 1109335178, 1051550459. */
    private static void drawing() {
        due.about("promise 61");
        String seven = "widow 0 0 faces 1 steps 1 at 0 grief on;widow 0 0 faces 1 steps 2 at 0 grief on;"
                + "widow 0 0 faces 1 steps 3 at 0 grief on;widow 0 0 faces 1 steps 4 at 0 grief on;"
                + "widow 0 0 faces 1 steps 5 at 0 grief on;widow 0 0 faces 1 steps 6 at 0 grief on;"
                + "widow 0 0 faces 1 steps 7 at 0 grief on;";
        // draws 0, 8, 8, 7, 8, 7, 5
        WidowRoads x = Due.told("colony years 1 law 0 odds 7 wide 8 high 2;" + seven);
        due.all(x, "drawn(0,0)=65 drawn(0,1)=6 keeps(5)=7 drawn(0,0)=65 drawn(0,1)=5");
        due.all(Due.told("colony years 1 law 0 odds 8 wide 8 high 2;" + seven), "drawn(0,0)=105 drawn(0,1)=5");
        due.all(Due.told("colony years 1 law 0 odds 0 wide 8 high 2;" + seven), "drawn(0,0)=0 drawn(0,1)=7");
        due.all(Due.told("colony years 1 law 0 odds 10 wide 8 high 2;" + seven), "drawn(0,0)=127 drawn(0,1)=0");
        due.all(x, "drawn(-1,0)=-2 drawn(0,2)=-2 drawn(0,-1)=-2 drawn(2000000001,0)=-2 drawn(2147483647,1)=-2"
                + " drawn(2000000000,0)=" + fog(2_000_000_000, 7) + " drawn(7,0)=" + fog(7, 7));
        due.all(new WidowRoads(), "drawn(0,0)=-2 luck(0,1,0)=-2");
        due.about("promise 62");
        x = Due.told("colony years 1 law 0 odds 7 wide 8 high 2;" + seven);
        for (int seed : new int[] {0, 5, 1_999_999_999, 2_000_000_000}) {
            int reached = 0;
            for (int i = 0; i < 20; i++) {
                reached += (fog(seed + i, 7) & 64) == 0 ? 1 : 0;
                due.is("luck(" + seed + "," + (i + 1) + ",70)", x.luck(seed, i + 1, 70), reached);
            }
        }
        due.all(x, "luck(0,0,0)=-2 luck(0,21,0)=-2 luck(0,-1,0)=-2 luck(-1,1,0)=-2 luck(2000000001,1,0)=-2 luck(0,1,9)=-2"
                + " luck(0,1,80)=-2 luck(0,1,-1)=-2 luck(0,1,1)=0 luck(0,20,1)=0");
    }

    /** The draws of term IX, in exact numbers. */
    private static int fog(int seed, int odds) {
        java.math.BigInteger x = java.math.BigInteger.valueOf(seed);
        int fog = 0;
        for (int w = 0; w < 7; w++) {
            x = x.multiply(java.math.BigInteger.valueOf(1103515245L)).add(java.math.BigInteger.valueOf(12345))
                    .mod(java.math.BigInteger.valueOf(2147483648L));
            if (x.longValue() / 65536 % 10 < odds) {
                fog |= 1 << w;
            }
        }
        return fog;
    }

    private static void rates() {
        due.about("promise 63");
        WidowRoads x = Due.told(Colonies.TWO_YEARS);
        due.all(x, "rate(0,0)=-2 rate(0,41)=-2 rate(2,1)=-2 rate(-1,1)=-2 rate(0,1)=3 widow(0,2)=1 steps(0)=1 pegs(1)=1"
                + " pegs(2)=4 house(0,2)=20 rate(0,40)=1 steps(0)=40 rate(0,3)=40 pegs(2)=6 keeps(1)=3 rate(0,1)=-5"
                + " rate(0,41)=-2 rate(2,1)=-2 widow(0,2)=3 undo()=0 rate(0,2)=3 undo()=-5 anew()=0 widow(0,2)=2");
    }
}
