/** Promises 67 to 69. What a row has is seen through faced(): a row's cells fit or don't. */
final class SlotTest {
    private static final Due due = new Due();

    public static void main(String[] args) {
        rows();
        writing();
        widths();
        pasting();
        overlaps();
        due.finish();
    }

    private static void rows() {
        due.about("promise 67");
        WidowRoads x = new WidowRoads();
        due.all(x, "row(-1,0,0)=-2 row(4,0,0)=-2 row(0,-1,0)=-2 row(0,4,0)=-2 row(0,0,61)=-2 row(0,0,-1)=-3 count(11)=0"
                + " row(4,0,-1)=-2 row(0,4,-1)=-2 row(0,0,-2147483648)=-3 row(0,0,2147483647)=-2 row(0,0,60)=0 count(11)=1"
                + " row(1,1,0)=0 row(2,2,1)=0 row(3,3,60)=0 count(11)=4");
        due.about("promise 67, the slot stays");
        x = Due.told(Colonies.TWO_YEARS);
        due.all(x, "row(0,0,3)=0 write(0,2,10)=0 laws(0)=0 row(0,0,-1)=-3 laws(0)=0 row(0,0,61)=-2 laws(0)=0 row(0,0,3)=0"
                + " laws(0)=15 write(0,0,5)=0 laws(0)=-2 row(0,3,3)=0 laws(0)=15 row(0,0,2)=0 laws(0)=-2");
    }

    private static void writing() {
        due.about("promise 68");
        WidowRoads x = new WidowRoads();
        due.all(x, "write(-1,0,0)=-2 write(4,0,0)=-2 write(0,0,0)=-6 write(0,-1,0)=-6 row(0,0,3)=0 write(0,-1,0)=-7"
                + " write(0,3,0)=-7 write(0,2,0)=0 write(0,2147483647,0)=-7 write(1,0,0)=-6 row(1,0,0)=0 write(1,0,0)=-7"
                + " write(4,-1,0)=-2");
    }

    private static void widths() {
        due.about("promise 68, cut to its width");
        for (int width = 0; width < 4; width++) {
            WidowRoads x = Due.told(Colonies.TWO_YEARS);
            x.row(0, width, 3);
            long[] turns = {1L << 8, 1L << 16, 1L << 32};
            for (int t = 0; t < turns.length; t++) {
                x.write(0, 0, 1 + turns[t]);
                x.write(0, 2, 2 - turns[t]);
                due.is("width " + width + " turn " + t, x.laws(0), width <= t ? 15 : -2);
            }
            x.write(0, 0, Long.MIN_VALUE);
            due.is("the least long, width " + width, x.laws(0), width == 3 ? -2 : 0);
        }
    }

    private static void pasting() {
        due.about("promise 69");
        WidowRoads x = Due.told(Colonies.TWO_YEARS);
        due.all(x, "paste(-1,0,0,0,0)=-2 paste(4,0,0,0,0)=-2 paste(0,0,-1,0,0)=-2 paste(0,0,4,0,0)=-2 paste(0,0,1,0,0)=-6"
                + " row(0,0,3)=0 paste(0,0,1,0,0)=-6 paste(1,0,0,0,0)=-6 row(1,1,3)=0 paste(0,0,1,0,1)=-8"
                + " paste(0,-1,1,0,1)=-8 row(1,0,4)=0");
        due.all(x, "paste(0,-1,1,0,1)=-7 paste(0,0,1,-1,1)=-7 paste(0,0,1,0,-1)=-7 paste(0,0,1,0,4)=-7 paste(0,1,1,0,3)=-7"
                + " paste(0,0,1,2,3)=-7 paste(1,0,0,0,4)=-7 paste(0,2147483647,1,0,2147483647)=-7"
                + " paste(0,0,1,2147483647,1)=-7 paste(0,0,1,0,2147483647)=-7 paste(0,0,1,0,3)=0 paste(0,3,1,4,0)=0");
        due.about("promise 69, what is put");
        due.all(x, "row(0,0,3)=0 write(0,0,1)=0 write(0,1,1)=0 write(0,2,12)=0 row(1,0,6)=0 laws(1)=15 paste(0,0,1,3,3)=0"
                + " laws(1)=15 faced(1,1)=1 paste(0,2,1,2,1)=0 laws(1)=0 paste(0,2,1,2,2)=-7 paste(1,1,1,2,1)=0 laws(1)=15");
        due.about("promise 69, nothing happens");
        due.all(x, "write(0,0,0)=0 paste(0,0,1,4,3)=-7 laws(1)=15 faced(1,1)=1");
    }

    /** 1 1 12 0 0 0 pushed on by three within one row, and back. */
    private static void overlaps() {
        due.about("promise 69, as they were");
        WidowRoads x = Due.told(Colonies.TWO_YEARS);
        due.all(x, "row(0,2,9)=0 write(0,0,1)=0 write(0,1,1)=0 write(0,2,12)=0 laws(0)=15 faced(0,1)=1"
                + " paste(0,0,0,3,6)=0 faced(0,1)=1 write(0,0,0)=0 write(0,1,0)=0 write(0,2,0)=0 faced(0,1)=1"
                + " write(0,3,0)=0 write(0,4,0)=0 write(0,5,0)=0 faced(0,1)=15");
        due.all(x, "write(0,6,1)=0 write(0,7,1)=0 write(0,8,1)=0 faced(0,1)=14 paste(0,3,0,0,6)=0 write(0,6,0)=0"
                + " write(0,7,0)=0 write(0,8,0)=0 faced(0,1)=14 write(0,3,0)=0 write(0,4,0)=0 write(0,5,0)=0 faced(0,1)=15");
    }
}
