import java.util.ArrayList;
import java.util.List;

/** The face of the document over the slow model: the limits are counted anew, from the whole program, at each put. */
final class ModelDesk {
    private static final int[] PARTS = {0, 0, 0, 0, 2, 1, 2, 2, 1, 1, 1};

    private final List<Model.Statement> told = new ArrayList<>();
    private int weights;
    private List<int[]> place;
    private Model model;
    private boolean hadInstant;

    /** Answers as the desk does, with an exception's name in place of an answer where one is due. */
    String put(int sort, int x) {
        if (due() == 0) {
            return "IllegalStateException";
        }
        place = null;
        findPlace(0, new ArrayList<>());
        if (sort < 0 || sort > 10 || !isOperand(sort, x)) {
            return "IllegalArgumentException";
        }
        int weight = 1 + place(Told.LOOP, 0) + place(Told.SEQUENCE, 1);
        if (told.size() == 120 || place.size() == 24 || sort == Told.PAUSE && number(Told.PAUSE) == 32
            || sort == Told.TRAP && place(Told.TRAP, 0) == 5 || weights + weight > 360) {
            return "-1";
        }
        told.add(new Model.Statement(sort, x));
        weights += weight;
        return String.valueOf(due());
    }

    private boolean isOperand(int sort, int x) {
        switch (sort) {
            case Told.EMIT, Told.LOCAL:
                return x >= 4 && x <= 15;
            case Told.EXIT:
                return x >= 0 && x < place(Told.TRAP, 0);
            case Told.PRESENT, Told.SUSPEND:
                return x >= 0 ? x <= 15 : x >= -16;
            default:
                return x == 0;
        }
    }

    private int due() {
        int due = 1;
        for (Model.Statement p : told) {
            due += PARTS[p.sort] - 1;
        }
        return due;
    }

    /** Finds the statements that the next one lies in, each with the number of the part that it lies in. */
    private int findPlace(int at, List<int[]> around) {
        if (at == told.size()) {
            place = place == null ? new ArrayList<>(around) : place;
            return at;
        }
        int next = at + 1;
        for (int part = 0; part < PARTS[told.get(at).sort] && place == null; part++) {
            around.add(new int[] {told.get(at).sort, part});
            next = findPlace(next, around);
            around.remove(around.size() - 1);
        }
        return next;
    }

    private int place(int sort, int part) {
        int found = 0;
        for (int[] around : place) {
            found += around[0] == sort && around[1] == part ? 1 : 0;
        }
        return found;
    }

    private int number(int sort) {
        int found = 0;
        for (Model.Statement p : told) {
            found += p.sort == sort ? 1 : 0;
        }
        return found;
    }

    String start() {
        if (due() != 0) {
            return "IllegalStateException";
        }
        Model next = new Model(tree(new int[1]));
        int refused = next.start();
        if (refused == 0) {
            model = next;
            hadInstant = false;
        }
        return String.valueOf(refused);
    }

    private Model.Statement tree(int[] at) {
        Model.Statement one = told.get(at[0]++);
        Model.Statement p = new Model.Statement(one.sort, one.x);
        for (int part = 0; part < PARTS[p.sort]; part++) {
            p.parts.add(tree(at));
        }
        return p;
    }

    String clear() {
        int statements = told.size();
        told.clear();
        weights = 0;
        model = null;
        return String.valueOf(statements);
    }

    private boolean goes() {
        return model != null && !model.ended;
    }

    String instant(int inputs) {
        if (!goes()) {
            return "IllegalStateException";
        }
        if (inputs < 0 || inputs > 15) {
            return "IllegalArgumentException";
        }
        hadInstant = true;
        return String.valueOf(model.instant(inputs));
    }

    String status(int s) {
        if (s < 0 || s > 15) {
            return "IndexOutOfBoundsException";
        }
        return String.valueOf(model != null && hadInstant ? model.statuses[s] : 0);
    }

    String selected(int k) {
        if (k < 0 || k >= number(Told.PAUSE)) {
            return "IndexOutOfBoundsException";
        }
        return String.valueOf(model != null && model.selection.contains(k));
    }

    String reacts() {
        if (!goes()) {
            return "IllegalStateException";
        }
        int found = 0;
        for (int inputs = 0; inputs <= 15; inputs++) {
            found += model.hasReaction(model.find(inputs)) ? 1 : 0;
        }
        return String.valueOf(found);
    }

    String emits(int s) {
        if (!goes()) {
            return "IllegalStateException";
        }
        if (s < 4 || s > 15) {
            return "IndexOutOfBoundsException";
        }
        int bits = 0;
        for (int inputs = 0; inputs <= 15; inputs++) {
            int[] found = model.find(inputs);
            bits |= model.hasReaction(found) && found[s] == 1 ? 1 << inputs : 0;
        }
        return String.valueOf(bits);
    }

    String count(int what) {
        switch (what) {
            case 0:
                return String.valueOf(told.size());
            case 1:
                return String.valueOf(due());
            case 2:
                return String.valueOf(number(Told.PAUSE));
            case 3:
                return String.valueOf(number(Told.LOOP));
            case 4:
                return String.valueOf(weights);
            case 5:
                return String.valueOf(model == null ? 0 : model.reactions);
            case 6:
                return String.valueOf(model == null ? 0 : model.selection.size());
            case 7:
                return model == null ? "0" : model.ended ? "2" : "1";
            default:
                return "-1";
        }
    }
}
