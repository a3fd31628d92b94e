/** Promises 44 to 48. */
final class SeenTest {
    private static final Due due = new Due();

    public static void main(String[] args) {
        fitting();
        asking();
        refusals();
        due.finish();
    }

    private static void fitting() {
        WidowRoads x = Due.told(Colonies.TWO_YEARS);
        due.about("promises 44, 45, 48");
        due.all(x, "row(0,0,3)=0 write(0,0,1)=0 write(0,1,1)=0 write(0,2,12)=0 faced(0,1)=1 faced(0,0)=15 griefs(0,1)=2"
                + " griefs(0,0)=15 laws(0)=15");
        due.about("a step at which laws part");
        due.all(x, "write(0,1,3)=0 write(0,2,21)=0 laws(0)=4 faced(0,1)=0 faced(0,0)=0 griefs(0,1)=0");
        due.about("two at once");
        due.all(x, "row(1,3,6)=0 write(1,0,1)=0 write(1,1,1)=0 write(1,2,1)=0 write(1,3,0)=0 write(1,4,0)=0"
                + " write(1,5,0)=0 faced(1,1)=14 griefs(1,1)=13 laws(1)=0 write(1,5,10)=0 faced(1,1)=0");
        due.about("a step that is not walked");
        due.all(x, "write(0,1,6)=0 write(0,2,1)=0 faced(0,1)=0 griefs(0,1)=0 laws(0)=0");
        due.about("nothing seen");
        due.all(x, "row(2,1,0)=0 faced(2,0)=15 faced(2,1)=15 griefs(2,1)=15 laws(2)=15");
        due.about("as acts are now");
        due.all(x, "write(0,1,1)=0 write(0,2,12)=0 keeps(0)=3 faced(0,1)=1 keeps(1)=0 faced(0,1)=0 laws(0)=0 anew()=2");
        due.all(x, "write(0,1,2)=0 write(0,2,11)=0 faced(0,1)=0 bridge(11)=7 faced(0,1)=1 laws(0)=15 griefs(0,1)=0");
        due.about("one widow's face turns another one's walk");
        x = Due.told(Colonies.IN_THE_WAY);
        due.all(x, "row(0,0,3)=0 write(0,0,1)=0 write(0,1,2)=0 write(0,2,20)=0 faced(0,0)=14 faced(0,1)=0 laws(0)=5"
                + " keeps(0)=7 faced(0,0)=15 laws(0)=15");
    }

    private static void asking() {
        WidowRoads x = Due.told(Colonies.TWO_YEARS);
        due.about("promises 46, 47");
        due.all(x, "row(0,0,0)=0 ask(0,1)=1 leaves(0,1)=3 row(1,0,3)=0 write(1,0,1)=0 write(1,1,1)=0 write(1,2,1)=0"
                + " faced(1,1)=14 ask(1,1)=-1 leaves(1,1)=3 write(1,2,12)=0 ask(1,1)=-1 leaves(1,1)=1"
                + " write(1,2,32)=0 faced(1,1)=0 ask(1,1)=-1 leaves(1,1)=0");
        due.about("in the middle each D goes elsewhere at once");
        x = Due.told("colony years 1 law 0 odds 0 wide 5 high 5;widow 2 2 faces 0 steps 2 at 0 grief on;");
        due.all(x, "row(0,0,0)=0 ask(0,0)=1 leaves(0,0)=1 row(1,0,3)=0 write(1,1,1)=0 write(1,2,21)=0 faced(1,0)=1"
                + " ask(1,0)=-1 leaves(1,0)=1");
        due.about("facing 1 she ends at her first step, at 11, by law 3; else she goes on to 0");
        x = Due.told("colony years 1 law 3 odds 0 wide 2 high 2;widow 1 0 faces 2 steps 1 at 0 grief on;"
                + "widow 0 1 faces 1 steps 2 at 0 grief on;");
        due.all(x, "at(1,0)=1 at(1,1)=11 steps(1)=1 row(0,0,0)=0 faced(0,1)=15 ask(0,1)=1 leaves(0,1)=3");
        due.about("one who stays in");
        due.all(x, "keeps(1)=1 ask(0,1)=-1 leaves(0,1)=4");
    }

    private static void refusals() {
        WidowRoads x = Due.told(Colonies.TWO_YEARS);
        due.about("promises 44 to 48, refused");
        for (String call : new String[] {"faced", "griefs", "ask", "leaves"}) {
            due.all(x, call + "(0,0)=-6 " + call + "(4,0)=-2 " + call + "(-1,0)=-2 " + call + "(0,2)=-2 " + call
                    + "(0,-1)=-2");
        }
        due.all(x, "laws(0)=-6 laws(4)=-2 laws(-1)=-2");
        due.all(x, "row(0,3,4)=0");
        refused(x, "not three each");
        due.all(x, "row(0,3,3)=0 laws(0)=15 write(0,0,2)=0");
        refused(x, "no such widow");
        due.all(x, "write(0,0,-1)=0");
        refused(x, "a widow below 0");
        due.all(x, "write(0,0,4294967296)=0");
        refused(x, "a widow beyond int");
        due.all(x, "write(0,0,0)=0 write(0,1,41)=0");
        refused(x, "no such step");
        due.all(x, "write(0,1,-1)=0");
        refused(x, "a step below 0");
        due.all(x, "write(0,1,4294967296)=0");
        refused(x, "a step beyond int");
        due.all(x, "write(0,1,40)=0 laws(0)=0 write(0,2,3)=0");
        refused(x, "no such cell");
        due.all(x, "write(0,2,-1)=0");
        refused(x, "a cell below 0");
        due.all(x, "write(0,2,4294967296)=0");
        refused(x, "a cell beyond int");
        due.all(x, "write(0,2,32)=0 laws(0)=0");
        due.about("no colony");
        due.all(new WidowRoads(), "faced(0,0)=-2 griefs(0,0)=-2 ask(0,0)=-2 leaves(0,0)=-2 laws(0)=-2 row(0,0,0)=0"
                + " laws(0)=-2 faced(0,0)=-2");
        due.all(Due.told(Colonies.BARE), "row(0,0,0)=0 laws(0)=15 faced(0,0)=-2 row(0,0,3)=0 laws(0)=-2");
    }

    private static void refused(WidowRoads x, String why) {
        due.about(why);
        due.all(x, "faced(0,0)=-2 griefs(0,0)=-2 ask(0,0)=-2 leaves(0,0)=-2 laws(0)=-2");
    }
}
