import java.util.ArrayList;
import java.util.List;

/** Objects with something behind them, and all that can be asked of one: what has stayed shows by two that agree. */
final class Histories {
    private static final String UNFINISHED = "colony years 1 law 0 odds 0 wide 2 high 2";

    /** What is asked of the colony as it is. */
    private static final String NOW = "creek(0) creek(11) creek(12) widow(0,0) widow(0,2) widow(1,2) widow(1,4) grief(1,1)"
            + " at(0,4) at(1,3) steps(0) steps(1) stands(0) ground(0) ground(1) loop(1) haunt(1) evening(0) evening(1)"
            + " visits(1,12) straight(0) road(1,2) roads(0) roads(1) roads(2) pegs(1) pegs(2) joins(12,2) corners(2,2)"
            + " nets(2) missing(2) rings(2) bridges(2) net(0,2) way(2,22,2) beeline(10,12) farthest(2,2) crossing()"
            + " shared(0,1) walked(0) first(1) line(2) house(0,0) house(0,1) house(0,2) moved(0) moves(0) moves(1)"
            + " served(2) cover() covers() blame() ford() by(0) by(2) law() worth(1) worth(3) share(0,0) share(1,1)"
            + " rests(0,1) gets(0,1,0,0) chance(1,0) chance(1,1) mean(0) mean(1) drawn(7,0) drawn(7,1) luck(3,20,1)";

    private static final String COUNTS = "count(0) count(1) count(2) count(3) count(4) count(5) count(6) count(7) count(8)"
            + " count(9) count(10) count(11)";

    private static final String SEEN = "laws(0) laws(1) laws(2) laws(3) faced(0,0) faced(0,1) faced(1,1) faced(2,1)"
            + " griefs(0,1) ask(0,1) leaves(2,1)";

    private Histories() {
    }

    /** Two years with acts, images 0 and 1, rows in slots 0 to 2, a fault, and a tape that is no colony yet. */
    static WidowRoads rich() {
        WidowRoads x = Due.told(Colonies.IN_THE_WAY);
        x.image(0);
        Due.tell(x, Colonies.TWO_YEARS);
        x.rate(0, 4);
        x.bridge(11);
        x.image(1);
        x.keeps(1);
        x.undo();
        x.bridge(0);
        fill(x, 0, 0, 6);
        x.row(1, 3, 0);
        fill(x, 2, 1, 60);
        Due.tell(x, "colony up");
        x.end(0);
        Due.put(x, UNFINISHED);
        return x;
    }

    /** As rich, but all is gone with a colony of no lines; images, rows and tape are there. */
    static WidowRoads none() {
        WidowRoads x = rich();
        x.end(0);
        x.colony();
        Due.put(x, UNFINISHED);
        return x;
    }

    /** Thirty acts, every slot and image has something, and the tape has all its 900 bytes. */
    static WidowRoads full() {
        WidowRoads x = Due.told(Colonies.TWO_YEARS);
        x.image(0);
        x.bridge(0);
        x.image(1);
        x.image(2);
        for (int i = 1; i < 29; i++) {
            x.bridge(i % 2 == 0 ? 11 : 32);
        }
        x.keeps(0);
        for (int slot = 0; slot < 4; slot++) {
            fill(x, slot, slot, 60);
        }
        Due.put(x, " ".repeat(900 - Colonies.SHUNNING.length()) + Colonies.SHUNNING);
        return x;
    }

    /** A row of which three numbers are worth seeing: widow 1 at 12 behind her first step. */
    private static void fill(WidowRoads x, int slot, int width, int n) {
        x.row(slot, width, n);
        x.write(slot, 0, 1);
        x.write(slot, 1, 1);
        x.write(slot, 2, 12);
        x.write(slot, n - 3, 1);
        x.write(slot, n - 1, 2);
    }

    /** All that one can be asked, the two on faults first; nothing is left of it then. */
    static String[] probe(WidowRoads x) {
        List<String> answers = new ArrayList<>();
        ask(x, answers, "fault(0) fault(1)");
        ask(x, answers, COUNTS);
        ask(x, answers, NOW);
        ask(x, answers, SEEN);
        ask(x, answers, "undo() pegs(2) creek(11) undo() pegs(2) anew() pegs(2) creek(11) back(1)");
        ask(x, answers, COUNTS);
        ask(x, answers, SEEN);
        ask(x, answers, "paste(0,0,0,3,3) laws(0) faced(0,1) paste(2,0,2,57,3) laws(2) faced(2,1) write(3,0,0)");
        ask(x, answers, "pegs(2) widow(0,2) undo() pegs(2) back(0) count(8) pegs(1) count(3) back(2) count(9) pegs(2)");
        Due.put(x, ";creek 1 1;house 0 0;");
        ask(x, answers, "count(10) colony() fault(0) fault(1) count(3) count(5) count(6) count(10)");
        ask(x, answers, "end(40) colony() fault(1)");
        return answers.toArray(new String[0]);
    }

    private static void ask(WidowRoads x, List<String> answers, String calls) {
        for (String call : calls.split(" ")) {
            answers.add(call + "=" + Due.answer(x, call));
        }
    }
}
