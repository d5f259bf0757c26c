import java.util.Random;

/** Compares the class with the model on random programs: promises 3 and 5 to 10. */
public final class ModelTest {
    private static final Check CHECK = new Check("ModelTest");
    private static final int PROGRAMS = 30000;
    private static final int INSTANTS = 7;

    private final Random random;
    private int room;
    private int pauses;
    private int locals;

    private ModelTest(long seed) {
        random = new Random(seed);
    }

    public static void main(String[] args) {
        int[] answered = new int[3];
        int refused = 0;
        for (int seed = 0; seed < PROGRAMS && CHECK.isRight(); seed++) {
            ModelTest test = new ModelTest(seed);
            Model model = new Model(test.program());
            ReactionDesk desk = new ReactionDesk();
            tell(desk, model.program);
            int due = model.start();
            CHECK.same(seed + " start", desk.start(), due);
            if (due != 0) {
                refused++;
                continue;
            }
            test.follow("program " + seed, model, desk, answered);
        }
        System.out.println("ModelTest: " + refused + " programs refused, instants that went on " + answered[0]
            + ", ended " + answered[1] + ", had no reaction " + answered[2]);
        CHECK.end();
    }

    private static void tell(ReactionDesk desk, Model.Statement p) {
        desk.put(p.sort, p.x);
        for (Model.Statement part : p.parts) {
            tell(desk, part);
        }
    }

    private Model.Statement program() {
        room = 3 + random.nextInt(36);
        pauses = 0;
        locals = 0;
        return statement(1, 0);
    }

    private Model.Statement statement(int depth, int traps) {
        room--;
        int sort = depth > 12 || room <= 0 ? random.nextInt(4) : sortWithin(depth);
        if (sort == Told.PAUSE && pauses == 32 || sort == Told.EXIT && traps == 0
            || sort == Told.TRAP && traps == 5 || sort == Told.LOCAL && locals == 6) {
            sort = Told.EMIT;
        }
        Model.Statement p = new Model.Statement(sort, operand(sort, traps));
        if (sort == Told.PAUSE) {
            pauses++;
        }
        if (sort == Told.LOCAL) {
            locals++;
        }
        int parts = sort < Told.PRESENT ? 0 : sort == Told.PRESENT || sort == Told.SEQUENCE || sort == Told.PARALLEL ? 2 : 1;
        for (int i = 0; i < parts; i++) {
            // Half of the loops get a body that is not refused.
            if (sort == Told.LOOP && random.nextBoolean() && pauses < 32) {
                p.parts.add(pausing(depth + 1, traps));
            } else {
                p.parts.add(statement(depth + 1, sort == Told.TRAP ? traps + 1 : traps));
            }
        }
        return p;
    }

    private Model.Statement pausing(int depth, int traps) {
        Model.Statement sequence = new Model.Statement(Told.SEQUENCE, 0);
        Model.Statement pause = new Model.Statement(Told.PAUSE, 0);
        pauses++;
        boolean pauseFirst = random.nextBoolean();
        if (pauseFirst) {
            sequence.parts.add(pause);
        }
        sequence.parts.add(statement(depth + 1, traps));
        if (!pauseFirst) {
            sequence.parts.add(pause);
        }
        return sequence;
    }

    private int sortWithin(int depth) {
        int sort = random.nextInt(14);
        if (sort > Told.LOCAL) {
            return Told.SEQUENCE + random.nextInt(2);
        }
        return depth < 4 && sort < Told.PRESENT ? Told.PRESENT + random.nextInt(7) : sort;
    }

    private int operand(int sort, int traps) {
        switch (sort) {
            case Told.EMIT:
            case Told.LOCAL:
                return 4 + random.nextInt(4);
            case Told.EXIT:
                return random.nextInt(traps);
            case Told.PRESENT:
            case Told.SUSPEND:
                int s = random.nextInt(3) == 0 ? random.nextInt(4) : 4 + random.nextInt(4);
                return random.nextInt(3) == 0 ? -1 - s : s;
            default:
                return 0;
        }
    }

    private void follow(String name, Model model, ReactionDesk desk, int[] answered) {
        for (int i = 0; i < INSTANTS && !model.ended; i++) {
            String here = name + ", instant " + i;
            if (i % 3 == 1) {
                compareForesight(here, model, desk);
            }
            int inputs = random.nextInt(16);
            int due = model.instant(inputs);
            answered[due]++;
            CHECK.same(here + " on " + inputs, desk.instant(inputs), due);
            compareState(here, model, desk);
        }
    }

    private static void compareState(String here, Model model, ReactionDesk desk) {
        for (int s = 0; s < 16; s++) {
            CHECK.same(here + ", status " + s, desk.status(s), model.statuses[s]);
        }
        for (int k = 0; k < desk.count(2); k++) {
            CHECK.same(here + ", selected " + k, desk.selected(k), model.selection.contains(k));
        }
        CHECK.same(here + ", count 5", desk.count(5), model.reactions);
        CHECK.same(here + ", count 6", desk.count(6), model.selection.size());
        CHECK.same(here + ", count 7", desk.count(7), model.ended ? 2 : 1);
    }

    private static void compareForesight(String here, Model model, ReactionDesk desk) {
        int reacts = 0;
        int[] emits = new int[16];
        for (int inputs = 0; inputs < 16; inputs++) {
            int[] found = model.find(inputs);
            if (model.hasReaction(found)) {
                reacts++;
                for (int s = 4; s < 16; s++) {
                    emits[s] |= found[s] << inputs;
                }
            }
        }
        CHECK.same(here + ", reacts", desk.reacts(), reacts);
        for (int s = 4; s < 16; s++) {
            CHECK.same(here + ", emits " + s, desk.emits(s), emits[s]);
        }
    }
}
