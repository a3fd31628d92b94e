/** Promises 6 to 8 and 64. */
final class ToldTest {
    private static final Due due = new Due();

    public static void main(String[] args) {
        WidowRoads x = Due.told(Colonies.TWO_YEARS);
        due.about("promise 6");
        due.all(x, "creek(11)=1 creek(0)=0 creek(32)=0 creek(40)=-2 creek(3)=-2 creek(9)=-2 creek(-1)=-2 creek(13)=-2"
                + " creek(2147483647)=-2 creek(-2147483648)=-2 bridge(11)=7 creek(11)=0 undo()=0 creek(11)=1");
        due.about("promise 7");
        due.all(x, "widow(0,0)=0 widow(0,1)=1 widow(0,2)=3 widow(0,3)=0 widow(0,4)=1 widow(1,0)=2 widow(1,1)=0"
                + " widow(1,2)=5 widow(1,3)=1 widow(1,4)=2 widow(1,5)=-2 widow(1,-1)=-2 widow(2,0)=-2 widow(-1,0)=-2");
        due.about("promise 8");
        due.all(x, "grief(0,0)=0 grief(0,1)=-1 grief(1,0)=1 grief(1,1)=3 grief(1,2)=-1 grief(1,-1)=-2 grief(2,0)=-2"
                + " grief(-1,0)=-2 grief(1,2147483647)=-1 grief(7,-1)=-2");
        due.all(Due.told("colony years 1 law 0 odds 0 wide 2 high 2;widow 1 0 faces 3 steps 1 at 0 grief left back"
                + " right on;"), "grief(0,0)=3 grief(0,1)=2 grief(0,2)=1 grief(0,3)=0 widow(0,0)=10 widow(0,1)=3");
        due.about("promise 64");
        due.all(x, "count(0)=2 count(1)=0 count(2)=5 count(3)=4 count(4)=3 count(5)=1 count(6)=1 count(7)=2 count(8)=0"
                + " count(9)=5 count(10)=0 count(11)=0 count(12)=-1 count(-1)=-1 count(2147483647)=-1");
        due.all(x, "bridge(11)=7 keeps(0)=5 count(5)=1 count(7)=2 count(8)=2 row(3,0,0)=0 count(11)=1 row(0,3,60)=0"
                + " count(11)=2 row(0,0,1)=0 count(11)=2 feed(0,0,0,0,0)=20 count(10)=20");
        due.all(Due.told(Colonies.BARE), "count(0)=12 count(1)=3 count(2)=10 count(3)=8 count(4)=8 count(5)=0 count(6)=0"
                + " count(7)=0 count(9)=1 creek(77)=0 creek(78)=-2 creek(80)=-2 widow(0,0)=-2");
        due.finish();
    }
}
