/** Promises 36 to 39. */
final class HouseTest {
    private static final Due due = new Due();

    public static void main(String[] args) {
        WidowRoads x = Due.told(Colonies.TWO_YEARS);
        due.about("promise 36");
        due.all(x, "house(0,0)=20 house(0,1)=1 house(0,2)=21 house(0,3)=-2 house(0,-1)=-2 house(1,0)=-2 house(-1,0)=-2");
        due.about("promise 37");
        due.all(x, "moved(0)=2 moved(1)=-2 moved(-1)=-2 keeps(1)=3 moved(0)=1 undo()=0");
        due.about("promise 38");
        due.all(x, "moves(0)=1 moves(1)=1 moves(2)=-2 moves(-1)=-2 keeps(1)=3 moves(1)=-1 undo()=0");
        due.about("promise 39");
        due.all(x, "served(0)=0 served(1)=1 served(2)=1 served(3)=-2 served(-1)=-2");
        due.about("gone");
        due.all(Due.told(Colonies.GONE), "house(0,0)=1 house(1,0)=11 house(0,1)=-1 house(1,1)=-1 house(0,2)=-1 moved(0)=1"
                + " moved(1)=1 moves(0)=2 moves(1)=0 served(0)=0 served(1)=0 served(2)=0");
        due.about("in order, not into one another's, not onto a creek");
        x = Due.told("colony years 1 law 0 odds 0 wide 3 high 3;house 1 0;house 0 1;house 0 0;creek 0 2;"
                + "widow 0 0 faces 1 steps 2 at 0 grief on;");
        due.all(x, "house(0,1)=11 house(1,1)=1 house(2,1)=12 moved(0)=1 moved(1)=0 moved(2)=1 moves(0)=2 served(1)=2"
                + " bridge(2)=2 house(0,1)=2 house(2,1)=11");
        due.about("to the very least cell");
        due.all(Due.told("colony years 1 law 0 odds 0 wide 3 high 2;house 1 0;widow 2 0 faces 3 steps 1 at 0 grief on;"),
                "house(0,1)=0 moved(0)=1 served(1)=1");
        due.about("a creek told behind a house");
        due.all(Due.told(Colonies.CREEK_AT_HOME), "house(0,0)=10 house(0,1)=11 moves(0)=1 served(1)=1");
        due.about("a house is served by a road beside it, not aslant");
        due.all(Due.told("colony years 1 law 0 odds 0 wide 3 high 3;house 1 1;house 2 1;house 2 0;house 2 2;"
                + "widow 0 0 faces 1 steps 1 at 0 grief on;"), "served(0)=0 served(1)=2");
        due.finish();
    }
}
