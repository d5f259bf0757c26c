import java.util.Random;

/** Compares the class with the model on random programs: promises 3 and 5 to 10. */
public final class ModelTest {
    private static final Check CHECK = new Check("ModelTest");
    private static final int PROGRAMS = 30000;
    private static final int INSTANTS = 7;

    private final Random random;

    private ModelTest(long seed) {
        random = new Random(seed);
    }

    public static void main(String[] args) {
        int[] answered = new int[3];
        int refused = 0;
        for (int seed = 0; seed < PROGRAMS && CHECK.isRight(); seed++) {
            ModelTest test = new ModelTest(seed);
            Model model = new Model(new RandomProgram(test.random).make());
            ReactionDesk desk = new ReactionDesk();
            RandomProgram.tell(desk, model.program);
            int due = model.start();
            CHECK.same(seed + " start", desk.start(), due);
            if (due != 0) {
                refused++;
                continue;
            }
            test.follow("program " + seed, model, desk, answered);
        }
        System.out.println("ModelTest: " + refused + " programs refused, instants that went on " + answered[0]
            + ", ended " + answered[1] + ", had no reaction " + answered[2]);
        CHECK.end();
    }

    private void follow(String name, Model model, ReactionDesk desk, int[] answered) {
        for (int i = 0; i < INSTANTS && !model.ended; i++) {
            String here = name + ", instant " + i;
            if (i % 3 == 1) {
                compareForesight(here, model, desk);
            }
            int inputs = random.nextInt(16);
            int due = model.instant(inputs);
            answered[due]++;
            CHECK.same(here + " on " + inputs, desk.instant(inputs), due);
            compareState(here, model, desk);
        }
    }

    private static void compareState(String here, Model model, ReactionDesk desk) {
        for (int s = 0; s < 16; s++) {
            CHECK.same(here + ", status " + s, desk.status(s), model.statuses[s]);
        }
        for (int k = 0; k < desk.count(2); k++) {
            CHECK.same(here + ", selected " + k, desk.selected(k), model.selection.contains(k));
        }
        CHECK.same(here + ", count 5", desk.count(5), model.reactions);
        CHECK.same(here + ", count 6", desk.count(6), model.selection.size());
        CHECK.same(here + ", count 7", desk.count(7), model.ended ? 2 : 1);
    }

    private static void compareForesight(String here, Model model, ReactionDesk desk) {
        int reacts = 0;
        int[] emits = new int[16];
        for (int inputs = 0; inputs < 16; inputs++) {
            int[] found = model.find(inputs);
            if (model.hasReaction(found)) {
                reacts++;
                for (int s = 4; s < 16; s++) {
                    emits[s] |= found[s] << inputs;
                }
            }
        }
        CHECK.same(here + ", reacts", desk.reacts(), reacts);
        for (int s = 4; s < 16; s++) {
            CHECK.same(here + ", emits " + s, desk.emits(s), emits[s]);
        }
    }
}
