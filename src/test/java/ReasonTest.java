/** Promises 40 to 43, 49 and 50. */
final class ReasonTest {
    private static final Due due = new Due();

    public static void main(String[] args) {
        WidowRoads x = Due.told(Colonies.TWO_YEARS);
        due.about("promises 40, 41");
        due.all(x, "cover()=2 covers()=3 keeps(0)=3 cover()=1 covers()=2 keeps(1)=0 cover()=0 covers()=0 anew()=2");
        due.all(Due.told(Colonies.BARE), "cover()=0 covers()=0");
        // 0 is in 0, 10; 1 in 10, 20; 2 in 0, 10; 3 in 10, 20: the least two are 0 and 1
        due.all(Due.told("colony years 1 law 0 odds 0 wide 3 high 2;widow 0 0 faces 1 steps 1 at 0 grief on;"
                + "widow 1 0 faces 1 steps 1 at 0 grief on;widow 1 0 faces 3 steps 1 at 0 grief on;"
                + "widow 2 0 faces 3 steps 1 at 0 grief on;"), "cover()=2 covers()=3");
        // the last one alone is in all
        due.all(Due.told("colony years 1 law 0 odds 0 wide 3 high 2;widow 0 0 faces 1 steps 1 at 0 grief on;"
                + "widow 1 0 faces 1 steps 1 at 0 grief on;widow 0 0 faces 1 steps 2 at 0 grief on;"),
                "cover()=1 covers()=4");
        // each one is in cells of her own
        StringBuilder seven = new StringBuilder("colony years 1 law 0 odds 0 wide 8 high 2;");
        for (int w = 0; w < 7; w++) {
            seven.append("widow " + w + " 0 faces 2 steps 1 at 0 grief on;");
        }
        due.all(Due.told(seven.toString()), "cover()=7 covers()=127 keeps(6)=6 cover()=6 covers()=63 pegs(1)=6");
        due.about("promise 42");
        due.all(x, "blame()=0 keeps(0)=3 blame()=-1 anew()=1 blame()=0");
        due.all(Due.told(Colonies.GONE), "blame()=0");
        due.all(Due.told(Colonies.BARE), "blame()=-1");
        // either one alone moves the house, once: no one is to blame
        due.all(Due.told("colony years 1 law 0 odds 0 wide 3 high 2;house 1 0;widow 0 0 faces 1 steps 1 at 0 grief on;"
                + "widow 2 0 faces 3 steps 1 at 0 grief on;"), "moves(0)=1 moves(1)=0 blame()=-1");
        // each moves a house of her own: the first of several
        due.all(Due.told("colony years 1 law 0 odds 0 wide 4 high 2;house 1 0;house 1 1;"
                + "widow 0 0 faces 1 steps 1 at 0 grief on;widow 2 1 faces 3 steps 1 at 0 grief on;"),
                "moved(0)=1 moved(1)=1 blame()=0");
        due.about("promise 43");
        due.all(x, "ford()=0 bridge(11)=7 ford()=-1 undo()=0 ford()=0");
        due.all(Due.told(Colonies.BARE), "ford()=-1");
        due.all(Due.told(Colonies.SHUT_IN), "ford()=0 keeps(0)=0 ford()=-1");
        // three of four would let her out, one step: the first of several
        due.all(Due.told("colony years 1 law 0 odds 0 wide 3 high 2;creek 0 1;creek 2 0;creek 0 0;creek 1 1;"
                + "widow 1 0 faces 1 steps 1 at 0 grief on;"), "pegs(1)=0 ford()=1 bridge(0)=1 ford()=-1");
        due.all(Due.told("colony years 1 law 0 odds 0 wide 3 high 2;creek 1 1;creek 1 0;creek 0 1;"
                + "widow 0 0 faces 0 steps 4 at 0 grief on;"), "pegs(1)=0 ford()=1");
        due.about("promise 49");
        due.all(x, "by(0)=6 by(1)=6 by(2)=7 by(3)=6 by(4)=-2 by(-1)=-2 count(1)=0 pegs(2)=6");
        due.all(Due.told(Colonies.SHUNNING), "by(0)=4 by(1)=6 by(2)=4 by(3)=3 law()=1 count(1)=1");
        due.about("promise 50");
        due.all(x, "law()=2 keeps(1)=3 law()=0");
        due.all(Due.told(Colonies.BARE), "by(0)=0 law()=0");
        due.all(new WidowRoads(), "by(0)=-2 law()=-2 cover()=-2 covers()=-2 blame()=-2 ford()=-2");
        due.finish();
    }
}
