/** Promises 9 to 17, and the laws of term II. */
final class WalkTest {
    private static final Due due = new Due();

    public static void main(String[] args) {
        twoYears();
        laws();
        edges();
        notWalking();
        due.finish();
    }

    private static void twoYears() {
        WidowRoads x = Due.told(Colonies.TWO_YEARS);
        due.about("promise 9");
        due.all(x, "at(0,0)=0 at(0,1)=10 at(0,2)=20 at(0,3)=30 at(0,4)=-1 at(0,40)=-1 at(0,41)=-2 at(0,-1)=-2"
                + " at(1,0)=2 at(1,1)=12 at(1,2)=22 at(1,3)=12 at(1,4)=2 at(1,5)=1 at(1,6)=-1 at(2,0)=-2 at(-1,0)=-2");
        due.about("promises 10, 11, 12");
        due.all(x, "steps(0)=3 steps(1)=5 steps(2)=-2 steps(-1)=-2 stands(0)=0 stands(1)=0 stands(2)=-2 stands(-1)=-2"
                + " ground(0)=4 ground(1)=4 ground(2)=-2 ground(-1)=-2");
        due.about("promises 13, 14");
        due.all(x, "loop(0)=-1 loop(1)=4 loop(2)=-2 loop(-1)=-2 haunt(0)=0 haunt(1)=2 haunt(2)=-2 haunt(-1)=-2");
        due.about("promise 15");
        due.all(x, "evening(0)=1 evening(1)=2 evening(2)=-2 evening(-1)=-2 evening(3)=-2");
        due.about("promise 16");
        due.all(x, "visits(1,2)=2 visits(1,12)=2 visits(1,22)=1 visits(1,0)=0 visits(1,3)=-2 visits(1,-1)=-2"
                + " visits(2,0)=-2 visits(-1,0)=-2");
        due.about("promise 17");
        due.all(x, "straight(0)=3 straight(1)=1 straight(2)=-2 straight(-1)=-2");
    }

    private static void laws() {
        due.about("law 1");
        due.all(Due.told(Colonies.SHUNNING), "at(0,2)=20 at(1,0)=1 at(1,1)=11 at(1,2)=21 at(1,3)=22 at(1,4)=12"
                + " pegs(1)=6 evening(0)=3");
        due.all(Due.told(Colonies.ALL_ROAD), "at(0,1)=10 at(0,2)=11 at(0,3)=1 at(0,4)=0 loop(0)=4 at(1,1)=10 at(1,2)=11"
                + " steps(1)=2 stands(1)=0");
        due.about("law 1: her own walk is no road yet");
        due.all(Due.told("colony years 1 law 1 odds 0 wide 3 high 2;creek 0 1;creek 1 1;creek 2 1;"
                + "widow 0 0 faces 1 steps 3 at 0 grief on;"), "at(0,1)=10 at(0,2)=20 at(0,3)=10 haunt(0)=10");
        due.about("law 2");
        due.all(Due.told(Colonies.NO_STEP_BACK), "at(0,0)=10 at(0,1)=0 at(0,2)=1 at(0,3)=11 at(0,4)=21 at(0,5)=20"
                + " at(0,6)=21 pegs(1)=5 loop(0)=-1");
        due.about("law 3");
        due.all(Due.told(Colonies.ENDING), "steps(0)=1 steps(1)=2 at(1,0)=1 at(1,1)=11 at(1,2)=21 at(1,3)=-1 steps(2)=2"
                + " at(2,0)=21 at(2,1)=31 at(2,2)=21 at(2,3)=-1 loop(2)=2 pegs(1)=3 pegs(2)=4");
    }

    private static void edges() {
        due.about("none is free");
        due.all(Due.told(Colonies.SHUT_IN), "steps(0)=3 stands(0)=3 ground(0)=1 at(0,3)=0 at(0,4)=-1 loop(0)=-1"
                + " haunt(0)=0 visits(0,0)=4 straight(0)=0 roads(1)=1 pegs(1)=0");
        due.about("a creek told behind the widow");
        WidowRoads x = Due.told(Colonies.CREEK_AT_HOME);
        due.all(x, "creek(10)=1 at(0,0)=10 at(0,1)=0 at(0,2)=1 straight(0)=-3 road(10,1)=1 pegs(1)=2 joins(10,1)=8");
        due.all(x, "bridge(10)=1 at(0,2)=10 straight(0)=0 loop(0)=2 undo()=0 straight(0)=-3");
        due.all(Due.told("colony years 1 law 0 odds 0 wide 2 high 2;widow 0 0 faces 0 steps 1 at 0 grief on;creek 0 0;"
                + "creek 1 0;creek 0 1;"), "straight(0)=-3 stands(0)=1 bridge(0)=0 straight(0)=0 bridge(10)=1"
                + " straight(0)=1 stands(0)=0");
        due.about("grief comes round, back and left");
        due.all(Due.told("colony years 1 law 0 odds 0 wide 5 high 5;"
                + "widow 2 2 faces 0 steps 7 at 0 grief left back on;"),
                "at(0,1)=12 at(0,2)=22 at(0,3)=32 at(0,4)=31 at(0,5)=32 at(0,6)=33 at(0,7)=43 loop(0)=2 haunt(0)=22");
        due.about("haunt: the most often, not the least");
        due.all(Due.told("colony years 1 law 0 odds 0 wide 3 high 2;widow 0 0 faces 1 steps 4 at 0 grief on on back;"),
                "at(0,1)=10 at(0,2)=20 at(0,3)=10 at(0,4)=0 haunt(0)=0 loop(0)=4 rate(0,3)=4 haunt(0)=10");
    }

    private static void notWalking() {
        due.about("one who does not walk");
        String all = "at(0,0)=-1 at(0,1)=-1 at(0,41)=-2 steps(0)=-1 stands(0)=-1 ground(0)=-1 loop(0)=-1 haunt(0)=-1"
                + " visits(0,0)=0 visits(0,9)=-2 straight(0)=-1 evening(0)=0 moves(0)=-1 walked(0)=0";
        due.all(Due.told("colony years 1 law 0 odds 0 wide 2 high 2;widow 0 0 faces 0 steps 3 at 1 grief on;"), all);
        WidowRoads x = Due.told("colony years 1 law 0 odds 0 wide 2 high 2;widow 0 0 faces 0 steps 3 at 0 grief on;");
        due.all(x, "steps(0)=3 evening(0)=1 keeps(0)=0");
        due.all(x, all);
    }
}
