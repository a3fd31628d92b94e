import java.util.function.Supplier;

/** Questions change nothing: behind each one all is as if it had not been asked, and asked again it answers the same. */
final class StaysTest {
    private static final Due due = new Due();

    private static final String QUESTIONS = "fault(0) fault(1) creek(11) widow(1,2) grief(1,1) at(1,3) steps(1) stands(1)"
            + " ground(1) loop(1) haunt(1) evening(1) visits(1,12) straight(1) road(0,2) roads(2) pegs(2) joins(12,2)"
            + " corners(2,2) nets(2) missing(2) rings(2) bridges(2) net(0,2) way(2,22,2) beeline(10,12) farthest(2,2)"
            + " crossing() shared(0,1) walked(0) first(1) line(2) house(0,2) moved(0) moves(1) served(2) cover() covers()"
            + " blame() ford() faced(0,1) griefs(0,1) ask(1,1) leaves(1,1) laws(0) laws(1) by(0) by(1) by(2) by(3) law()"
            + " worth(0) worth(1) worth(3) share(0,0) share(1,1) rests(0,1) gets(0,1,1,0) gets(1,0,0,1) chance(1,0)"
            + " chance(11,1) mean(0) mean(1) drawn(7,0) drawn(7,1) luck(3,20,1) count(8)";

    public static void main(String[] args) {
        for (String question : QUESTIONS.split(" ")) {
            stays(Histories::rich, question);
            stays(Histories::full, question);
            stays(Histories::none, question);
        }
        behindEachOther(Histories::rich);
        behindEachOther(Histories::full);
        due.finish();
    }

    /** No question answers otherwise for one that was asked just ahead of it. */
    private static void behindEachOther(Supplier<WidowRoads> history) {
        String[] questions = QUESTIONS.split(" ");
        for (String ahead : questions) {
            WidowRoads x = history.get();
            for (String question : questions) {
                due.about(question + " behind " + ahead);
                long alone = Due.answer(history.get(), question);
                Due.answer(x, ahead);
                due.is("it", Due.answer(x, question), alone);
            }
        }
    }

    private static void stays(Supplier<WidowRoads> history, String question) {
        due.about(question);
        WidowRoads x = history.get();
        due.is("asked again", Due.answer(x, question), Due.answer(x, question));
        String[] with = Histories.probe(x);
        String[] without = Histories.probe(history.get());
        for (int i = 0; i < with.length; i++) {
            due.same("behind it", with[i], without[i]);
        }
    }
}
