import java.util.List;
import java.util.Random;

/**
 * Promises 5 to 7 on random programs, by another way than the model's: what is found without a guess is what each guess
 * that holds comes to, and where there is a reaction just one guess holds.
 */
public final class GuessesTest {
    private static final Check CHECK = new Check("GuessesTest");
    private static final int PROGRAMS = 12000;
    private static final int INSTANTS = 6;

    private int reactions;
    private int without;
    private int heldWithout;

    public static void main(String[] args) {
        GuessesTest test = new GuessesTest();
        for (int seed = 0; seed < PROGRAMS && CHECK.isRight(); seed++) {
            Random random = new Random(-1 - seed);
            // The model numbers the pauses.
            Model.Statement program = new Model(new RandomProgram(random).make()).program;
            ReactionDesk desk = new ReactionDesk();
            RandomProgram.tell(desk, program);
            if (desk.start() == 0) {
                test.follow("program " + seed, desk, new Guesses(program), random);
            }
        }
        System.out.println("GuessesTest: " + test.reactions + " instants with a reaction, " + test.without
            + " without, where " + test.heldWithout + " guesses would have held");
        CHECK.end();
    }

    private void follow(String name, ReactionDesk desk, Guesses guesses, Random random) {
        for (int i = 0; i < INSTANTS && desk.count(7) == 1; i++) {
            int inputs = random.nextInt(16);
            String here = name + ", instant " + i + " on " + inputs;
            List<Guesses.Run> held = guesses.thatHold(inputs);
            int answer = desk.instant(inputs);
            for (Guesses.Run run : held) {
                int unknown = Told.signals(desk, 2);
                CHECK.same(here + ", known signals", Told.signals(desk, 1), run.present() & ~unknown);
            }
            if (answer == 2) {
                without++;
                heldWithout += held.size();
                continue;
            }
            reactions++;
            CHECK.same(here + ", guesses that hold", held.size(), 1);
            CHECK.same(here + ", unknown signals", Told.signals(desk, 2), 0);
            for (Guesses.Run run : held) {
                CHECK.same(here, answer, run.code() == 1 ? 0 : 1);
                CHECK.same(here + ", selected", Told.selection(desk), run.selection());
                guesses.goOn(run);
            }
        }
    }
}
