/** Programs told to desks in a short form: pairs of a sort and its x. */
final class Told {
    static final int NOTHING = 0;
    static final int PAUSE = 1;
    static final int EMIT = 2;
    static final int EXIT = 3;
    static final int PRESENT = 4;
    static final int SUSPEND = 5;
    static final int SEQUENCE = 6;
    static final int PARALLEL = 7;
    static final int LOOP = 8;
    static final int TRAP = 9;
    static final int LOCAL = 10;

    private Told() {
    }

    static ReactionDesk desk(int... pairs) {
        ReactionDesk desk = new ReactionDesk();
        add(desk, pairs);
        return desk;
    }

    static ReactionDesk started(int... pairs) {
        ReactionDesk desk = desk(pairs);
        int refused = desk.start();
        if (refused != 0) {
            throw new AssertionError("the program was refused: " + refused);
        }
        return desk;
    }

    static void add(ReactionDesk desk, int... pairs) {
        for (int i = 0; i + 1 < pairs.length; i += 2) {
            if (desk.put(pairs[i], pairs[i + 1]) == ReactionDesk.NONE) {
                throw new AssertionError("statement " + i / 2 + " was not taken");
            }
        }
    }

    static void repeat(ReactionDesk desk, int times, int... pairs) {
        for (int i = 0; i < times; i++) {
            add(desk, pairs);
        }
    }

    /** The pauses that are selected, as bits. */
    static int selection(ReactionDesk desk) {
        int bits = 0;
        for (int k = 0; k < desk.count(2); k++) {
            if (desk.selected(k)) {
                bits |= 1 << k;
            }
        }
        return bits;
    }

    /** The signals whose status is the given one, as bits. */
    static int signals(ReactionDesk desk, int status) {
        int bits = 0;
        for (int s = 0; s < 16; s++) {
            if (desk.status(s) == status) {
                bits |= 1 << s;
            }
        }
        return bits;
    }
}
