/** Promises 18 to 35. */
final class RoadTest {
    private static final Due due = new Due();

    public static void main(String[] args) {
        years();
        nets();
        ways();
        people();
        rings();
        apart();
        widest();
        due.finish();
    }

    private static void years() {
        WidowRoads x = Due.told(Colonies.TWO_YEARS);
        due.about("promise 18");
        due.all(x, "road(0,0)=0 road(0,1)=1 road(0,2)=1 road(2,1)=0 road(2,2)=1 road(11,2)=0 road(0,3)=-2 road(0,-1)=-2"
                + " road(3,0)=-2 road(40,0)=-2 road(-1,0)=-2");
        due.about("promise 19");
        due.all(x, "roads(0)=0 roads(1)=4 roads(2)=8 roads(3)=-2 roads(-1)=-2 roads(2147483647)=-2");
        due.about("promise 20");
        due.all(x, "pegs(0)=0 pegs(1)=3 pegs(2)=6 pegs(3)=-2 pegs(-1)=-2");
        due.about("promise 21");
        due.all(x, "joins(0,0)=0 joins(0,1)=2 joins(10,1)=10 joins(30,1)=8 joins(2,2)=3 joins(1,2)=4 joins(12,2)=10"
                + " joins(22,2)=8 joins(11,2)=0 joins(0,3)=-2 joins(0,-1)=-2 joins(3,1)=-2 joins(-1,1)=-2");
        due.about("promise 22");
        due.all(x, "corners(0,0)=0 corners(0,2)=0 corners(1,1)=2 corners(2,1)=2 corners(1,2)=4 corners(2,2)=4"
                + " corners(3,2)=0 corners(4,2)=0 corners(5,2)=-2 corners(-1,2)=-2 corners(0,3)=-2 corners(0,-1)=-2");
        due.all(Due.told(Colonies.SHUT_IN), "corners(0,1)=1 corners(1,1)=0");
        due.about("promise 34");
        due.all(x, "first(0)=1 first(1)=2 first(11)=-1 first(21)=-1 first(3)=-2 first(-1)=-2");
        due.about("promise 35");
        due.all(x, "line(0)=0 line(1)=3 line(2)=3 line(3)=-2 line(-1)=-2");
    }

    private static void nets() {
        WidowRoads x = Due.told(Colonies.TWO_YEARS);
        due.about("promise 23");
        due.all(x, "nets(0)=0 nets(1)=1 nets(2)=2 nets(3)=-2 nets(-1)=-2");
        due.about("promise 24");
        due.all(x, "missing(0)=0 missing(1)=0 missing(2)=1 missing(3)=-2 missing(-1)=-2");
        due.about("promise 25");
        due.all(x, "rings(0)=0 rings(1)=0 rings(2)=0 rings(3)=-2 rings(-1)=-2");
        due.about("promise 26");
        due.all(x, "bridges(0)=0 bridges(1)=3 bridges(2)=6 bridges(3)=-2 bridges(-1)=-2");
        due.about("promise 27");
        due.all(x, "net(0,0)=0 net(0,1)=4 net(30,2)=4 net(1,1)=0 net(1,2)=4 net(11,2)=0 net(3,2)=-2 net(0,3)=-2"
                + " net(0,-1)=-2 net(-1,1)=-2");
    }

    private static void ways() {
        WidowRoads x = Due.told(Colonies.TWO_YEARS);
        due.about("promise 28");
        due.all(x, "way(0,30,1)=3 way(30,0,1)=3 way(0,0,1)=0 way(0,0,0)=-1 way(2,22,2)=2 way(22,1,2)=3 way(2,0,2)=-1"
                + " way(11,0,2)=-1 way(0,11,2)=-1 way(11,11,2)=-1 way(0,3,2)=-2 way(3,0,2)=-2 way(0,0,3)=-2 way(0,0,-1)=-2");
        due.about("promise 29");
        due.all(x, "beeline(10,12)=4 beeline(0,0)=0 beeline(0,32)=5 beeline(11,0)=-1 beeline(0,11)=-1 beeline(11,11)=-1"
                + " beeline(0,3)=-2 beeline(40,0)=-2 beeline(-1,0)=-2 bridge(11)=7 beeline(10,12)=2 beeline(11,11)=0");
        due.all(Due.told(Colonies.SHUT_IN), "beeline(0,11)=-1 beeline(11,11)=0 beeline(0,10)=-1 bridge(10)=2"
                + " beeline(0,11)=2 beeline(0,10)=1");
        due.about("promise 30");
        x = Due.told(Colonies.TWO_YEARS);
        due.all(x, "farthest(0,0)=-1 farthest(0,1)=30 farthest(10,1)=30 farthest(20,1)=0 farthest(2,2)=22"
                + " farthest(12,2)=1 farthest(11,2)=-1 farthest(3,2)=-2 farthest(0,3)=-2 farthest(0,-1)=-2");
        due.all(Due.told(Colonies.SHUT_IN), "farthest(0,1)=0 farthest(11,1)=-1");
    }

    private static void people() {
        WidowRoads x = Due.told(Colonies.TWO_YEARS);
        due.about("promise 31");
        due.all(x, "crossing()=0 keeps(0)=3 crossing()=1 keeps(1)=0 crossing()=-1");
        due.all(Due.told(Colonies.ENDING), "crossing()=21");
        due.all(Due.told(Colonies.BARE), "crossing()=-1");
        due.about("promise 32");
        x = Due.told(Colonies.ENDING);
        due.all(x, "shared(0,0)=2 shared(0,1)=1 shared(1,0)=1 shared(1,1)=3 shared(1,2)=1 shared(3,0)=-2 shared(0,3)=-2"
                + " shared(-1,0)=-2 shared(0,-1)=-2 keeps(0)=6 shared(0,0)=0 shared(0,1)=0");
        due.about("promise 33");
        x = Due.told(Colonies.ENDING);
        due.all(x, "walked(21)=7 walked(20)=1 walked(1)=2 walked(11)=2 walked(31)=4 walked(0)=0 walked(2)=-2"
                + " walked(40)=-2 walked(-1)=-2");
    }

    /** She walks round a square, and one side further on: 0, 10, 11, 1, 0, 10, 20. */
    private static void rings() {
        due.about("a ring with a tail");
        WidowRoads x = Due.told("colony years 1 law 0 odds 0 wide 3 high 2;"
                + "widow 0 0 faces 0 steps 6 at 0 grief right right right right right left;");
        due.all(x, "at(0,1)=10 at(0,2)=11 at(0,3)=1 at(0,4)=0 at(0,5)=10 at(0,6)=20 roads(1)=5 pegs(1)=5 nets(1)=1"
                + " rings(1)=1 bridges(1)=1 corners(1,1)=1 corners(2,1)=3 corners(3,1)=1 line(1)=2 way(1,20,1)=3"
                + " farthest(20,1)=1 net(0,1)=5 missing(1)=0 joins(10,1)=14 loop(0)=4");
    }

    /** Two stand apart, a third beside one of them: nets side by side and not. */
    private static void apart() {
        due.about("nets that do not lie side by side");
        WidowRoads x = Due.told("colony years 2 law 0 odds 0 wide 4 high 3;widow 0 0 faces 1 steps 1 at 0 grief on;"
                + "widow 2 2 faces 1 steps 1 at 0 grief on;widow 2 0 faces 2 steps 1 at 1 grief on;");
        due.all(x, "nets(1)=2 missing(1)=-1 nets(2)=3 missing(2)=2 rings(2)=0 bridges(2)=3 roads(2)=6 net(21,2)=2");
        due.about("squares are joined by no pegs of their own");
        due.all(x, "way(10,20,2)=-1 way(21,22,2)=-1");
    }

    /** The whole of 8 by 8: rows end at the edge, columns do not run on. */
    private static void widest() {
        due.about("8 by 8");
        WidowRoads x = Due.told("colony years 1 law 0 odds 0 wide 8 high 8;widow 0 0 faces 2 steps 7 at 0 grief on;"
                + "widow 1 0 faces 2 steps 7 at 0 grief on;widow 0 3 faces 1 steps 7 at 0 grief on;");
        due.all(x, "at(0,7)=7 at(0,8)=-1 roads(1)=22 line(1)=7 pegs(1)=21 nets(1)=1 bridges(1)=21"
                + " joins(7,1)=1 joins(10,1)=4 joins(3,1)=7 joins(13,1)=15 way(7,17,1)=9 way(7,10,1)=8 beeline(7,10)=8"
                + " farthest(7,1)=73 beeline(0,77)=14 missing(1)=0 corners(4,1)=1 corners(3,1)=1");
        due.about("columns side by side in number only");
        x = Due.told("colony years 1 law 0 odds 0 wide 8 high 8;widow 0 6 faces 2 steps 1 at 0 grief on;"
                + "widow 1 0 faces 2 steps 1 at 0 grief on;");
        due.all(x, "roads(1)=4 nets(1)=2 missing(1)=-1 line(1)=1");
    }
}
