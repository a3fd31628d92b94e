/** Promises 51 to 56. */
final class SetTest {
    private static final Due due = new Due();

    public static void main(String[] args) {
        worth();
        shares();
        games();
        chances();
        acts();
        due.finish();
    }

    private static void worth() {
        due.about("promise 51");
        due.all(Due.told(Colonies.TWO_YEARS), "worth(0)=0 worth(1)=3 worth(2)=3 worth(3)=6 worth(4)=-2 worth(-1)=-2"
                + " worth(2147483647)=-2 worth(-2147483648)=-2");
        due.all(Due.told(Colonies.IN_THE_WAY), "worth(0)=0 worth(1)=1 worth(2)=7 worth(3)=2");
        due.all(Due.told(Colonies.BARE), "worth(0)=0 worth(1)=-2 share(0,0)=-1000000");
    }

    private static void shares() {
        due.about("promise 52");
        due.all(Due.told(Colonies.TWO_YEARS), "share(0,0)=3 share(0,1)=1 share(1,0)=3 share(1,1)=1 share(2,0)=-1000000"
                + " share(-1,0)=-1000000 share(0,2)=-1000000 share(0,-1)=-1000000");
        due.all(Due.told(Colonies.IN_THE_WAY), "share(0,0)=-2 share(0,1)=1 share(1,0)=4 share(1,1)=1");
        // the same walk by three: 2 pegs in thirds; one who never walks: nothing
        due.all(Due.told("colony years 1 law 0 odds 0 wide 3 high 2;widow 0 0 faces 1 steps 2 at 0 grief on;"
                + "widow 0 0 faces 1 steps 2 at 0 grief on;widow 0 0 faces 1 steps 2 at 0 grief on;"
                + "widow 0 0 faces 1 steps 2 at 1 grief on;"),
                "share(0,0)=2 share(0,1)=3 share(2,0)=2 share(2,1)=3 share(3,0)=0 share(3,1)=1 worth(8)=0 worth(15)=2");
        // one peg of widow 0 and 1 alike, one of widow 0 alone: 3 / 2 and 1 / 2
        due.all(Due.told("colony years 1 law 0 odds 0 wide 3 high 2;widow 0 0 faces 1 steps 2 at 0 grief on;"
                + "widow 0 0 faces 1 steps 1 at 0 grief on;"), "share(0,0)=3 share(0,1)=2 share(1,0)=1 share(1,1)=2");
    }

    private static void games() {
        due.about("promise 54");
        due.all(Due.told(Colonies.TWO_YEARS), "gets(0,1,0,0)=2 gets(0,1,0,1)=2 gets(0,1,1,0)=0 gets(0,1,1,1)=0"
                + " gets(1,0,0,0)=2 gets(1,0,0,1)=4 gets(1,0,1,0)=0 gets(0,0,0,0)=-1000 gets(0,2,0,0)=-1000"
                + " gets(2,0,0,0)=-1000 gets(-1,0,0,0)=-1000 gets(0,-1,0,0)=-1000 gets(0,1,2,0)=-1000"
                + " gets(0,1,0,2)=-1000 gets(0,1,-1,0)=-1000 gets(0,1,0,-1)=-1000");
        due.about("promise 53");
        due.all(Due.told(Colonies.TWO_YEARS), "rests(0,1)=1 rests(1,0)=1 rests(0,0)=-2 rests(0,2)=-2 rests(2,0)=-2"
                + " rests(-1,0)=-2 rests(0,-1)=-2");
        due.all(Due.told(Colonies.GONE), "gets(0,1,0,0)=0 gets(1,0,0,0)=2 gets(1,0,0,1)=2 rests(0,1)=3 rests(1,0)=5");
        due.about("below 0: she moves three houses with two cells");
        // widow 0 goes 0, 10 and moves both houses there: 2 less 4. Widow 1 goes 1, 11, where they then are not
        WidowRoads x = Due.told("colony years 1 law 0 odds 0 wide 4 high 2;house 0 0;house 1 0;"
                + "widow 0 0 faces 1 steps 1 at 0 grief on;widow 3 1 faces 0 steps 1 at 0 grief on;");
        due.all(x, "moves(0)=2 gets(0,1,0,0)=-2 gets(0,1,1,0)=0 gets(1,0,0,0)=2 rests(0,1)=2 rests(1,0)=4");
        due.about("others walk as now, one kept in gets nothing");
        due.all(x, "keeps(1)=1 gets(1,0,0,0)=0 gets(0,1,0,0)=-2 rests(0,1)=10 rests(1,0)=12 keeps(0)=0 rests(0,1)=15");
    }

    private static void chances() {
        due.about("promise 55");
        WidowRoads x = Due.told(Colonies.TWO_YEARS);
        due.all(x, "chance(0,0)=1 chance(0,1)=2 chance(1,0)=1 chance(1,1)=2 chance(11,0)=0 chance(11,1)=1 chance(3,0)=-2"
                + " chance(-1,0)=-2 chance(40,1)=-2 chance(0,2)=-2 chance(0,-1)=-2");
        due.about("promise 56");
        due.all(x, "mean(0)=3 mean(1)=1 mean(2)=-2 mean(-1)=-2");
        due.about("promises 55, 56, one in the way of the other");
        due.all(Due.told(Colonies.IN_THE_WAY), "chance(20,0)=6 chance(20,1)=25 chance(10,0)=21 chance(10,1)=25"
                + " chance(11,0)=3 chance(11,1)=5 mean(0)=66 mean(1)=25");
        due.about("odds 0 and 10");
        due.all(Due.told(Colonies.SHUNNING), "chance(0,0)=1 chance(0,1)=1 chance(2,0)=0 chance(2,1)=1 mean(0)=6 mean(1)=1");
        due.all(Due.told("colony years 1 law 0 odds 10 wide 2 high 2;widow 0 0 faces 1 steps 1 at 0 grief on;"),
                "pegs(1)=1 chance(0,0)=0 chance(0,1)=1 mean(0)=0 mean(1)=1");
        due.all(Due.told(Colonies.BARE), "chance(0,0)=0 chance(0,1)=1 mean(0)=0 mean(1)=1");
    }

    private static void acts() {
        due.about("promises 51 to 56 behind each change");
        WidowRoads x = Due.told(Colonies.TWO_YEARS);
        due.all(x, "worth(2)=3 bridge(11)=7 worth(2)=5 worth(3)=7 chance(11,0)=1 undo()=0 worth(2)=3 chance(11,0)=0"
                + " keeps(1)=3 worth(2)=0 worth(3)=3 share(1,0)=0 share(1,1)=1 mean(0)=3 mean(1)=2 anew()=1 worth(3)=6"
                + " image(0)=0 rate(0,1)=3 worth(1)=1 back(0)=0 worth(1)=3");
        Due.tell(x, Colonies.IN_THE_WAY);
        due.all(x, "worth(2)=7");
    }
}
