/** Promises 65 and 66. */
final class ImageTest {
    private static final Due due = new Due();

    public static void main(String[] args) {
        WidowRoads x = new WidowRoads();
        due.about("promises 65, 66");
        due.all(x, "image(-1)=-2 image(3)=-2 back(-1)=-2 back(3)=-2 back(0)=-6 back(1)=-6 back(2)=-6 image(2)=0");
        Due.tell(x, Colonies.TWO_YEARS);
        due.all(x, "bridge(11)=7 keeps(0)=5 image(0)=0 undo()=1 image(1)=0 anew()=1 rate(1,1)=5 pegs(2)=4 row(0,0,2)=0"
                + " feed(0,0,0,0,0)=20");
        due.all(x, "back(0)=0 count(8)=2 pegs(2)=5 widow(1,2)=5 creek(11)=0 steps(0)=-1 count(10)=20 count(11)=1");
        due.all(x, "undo()=1 pegs(2)=7 back(1)=0 count(8)=1 pegs(2)=7 undo()=0 pegs(2)=6 back(1)=0 count(8)=1");
        due.about("an image stays as it was kept");
        due.all(x, "anew()=1 rate(0,1)=3 back(0)=0 widow(0,2)=3 count(8)=2 image(0)=0 back(1)=0 count(8)=1");
        due.about("of another colony");
        Due.tell(x, Colonies.ENDING);
        due.all(x, "count(7)=3 image(1)=0 back(0)=0 count(7)=2 count(8)=2 count(9)=5 back(1)=0 count(7)=3 count(9)=4"
                + " at(2,1)=31 count(8)=0");
        due.about("fault stays that of the latest colony()");
        due.is("a fault", Due.tell(x, "colony up"), -4);
        due.all(x, "back(0)=0 fault(0)=1 fault(1)=7 count(10)=9");
        due.about("of no colony");
        due.all(x, "back(2)=0 count(9)=0 roads(0)=-2 undo()=-2 widow(0,0)=-2 back(0)=0 count(9)=5 pegs(2)=5");
        due.finish();
    }
}
