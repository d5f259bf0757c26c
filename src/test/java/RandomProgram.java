import java.util.Random;

/** Programs made by chance, that keep to the document's limits and use the signals 0 to 7. */
final class RandomProgram {
    private final Random random;
    private int room;
    private int pauses;
    private int locals;

    RandomProgram(Random random) {
        this.random = random;
    }

    static void tell(ReactionDesk desk, Model.Statement p) {
        desk.put(p.sort, p.x);
        for (Model.Statement part : p.parts) {
            tell(desk, part);
        }
    }

    Model.Statement make() {
        room = 3 + random.nextInt(36);
        return statement(1, 0);
    }

    private Model.Statement statement(int depth, int traps) {
        room--;
        int sort = depth > 12 || room <= 0 ? random.nextInt(4) : sortWithin(depth);
        if (sort == Told.PAUSE && pauses == 32 || sort == Told.EXIT && traps == 0
            || sort == Told.TRAP && traps == 5 || sort == Told.LOCAL && locals == 6) {
            sort = Told.EMIT;
        }
        Model.Statement p = new Model.Statement(sort, operand(sort, traps));
        if (sort == Told.PAUSE) {
            pauses++;
        }
        if (sort == Told.LOCAL) {
            locals++;
        }
        int parts = sort < Told.PRESENT ? 0 : sort == Told.PRESENT || sort == Told.SEQUENCE || sort == Told.PARALLEL ? 2 : 1;
        for (int i = 0; i < parts; i++) {
            // Half of the loops get a body that is not refused.
            if (sort == Told.LOOP && random.nextBoolean() && pauses < 32) {
                p.parts.add(pausing(depth + 1, traps));
            } else {
                p.parts.add(statement(depth + 1, sort == Told.TRAP ? traps + 1 : traps));
            }
        }
        return p;
    }

    private Model.Statement pausing(int depth, int traps) {
        Model.Statement sequence = new Model.Statement(Told.SEQUENCE, 0);
        Model.Statement pause = new Model.Statement(Told.PAUSE, 0);
        pauses++;
        boolean pauseFirst = random.nextBoolean();
        if (pauseFirst) {
            sequence.parts.add(pause);
        }
        sequence.parts.add(statement(depth + 1, traps));
        if (!pauseFirst) {
            sequence.parts.add(pause);
        }
        return sequence;
    }

    private int sortWithin(int depth) {
        int sort = random.nextInt(14);
        if (sort > Told.LOCAL) {
            return Told.SEQUENCE + random.nextInt(2);
        }
        return depth < 4 && sort < Told.PRESENT ? Told.PRESENT + random.nextInt(7) : sort;
    }

    private int operand(int sort, int traps) {
        switch (sort) {
            case Told.EMIT:
            case Told.LOCAL:
                return 4 + random.nextInt(4);
            case Told.EXIT:
                return random.nextInt(traps);
            case Told.PRESENT:
            case Told.SUSPEND:
                int s = random.nextInt(3) == 0 ? random.nextInt(4) : 4 + random.nextInt(4);
                return random.nextInt(3) == 0 ? -1 - s : s;
            default:
                return 0;
        }
    }
}
