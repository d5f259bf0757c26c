import java.util.List;

/** Programs told to desks in a short form: pairs of a sort and its x, or words. */
final class Told {
    static final int NOTHING = 0;
    static final int PAUSE = 1;
    static final int EMIT = 2;
    static final int EXIT = 3;
    static final int PRESENT = 4;
    static final int SUSPEND = 5;
    static final int SEQUENCE = 6;
    static final int PARALLEL = 7;
    static final int LOOP = 8;
    static final int TRAP = 9;
    static final int LOCAL = 10;

    /** The sorts by number. */
    static final List<String> WORDS = List.of(
        "nothing", "pause", "emit", "exit", "present", "suspend", "seq", "par", "loop", "trap", "local");

    private Told() {
    }

    static ReactionDesk desk(int... pairs) {
        ReactionDesk desk = new ReactionDesk();
        add(desk, pairs);
        return desk;
    }

    static ReactionDesk started(int... pairs) {
        ReactionDesk desk = desk(pairs);
        int refused = desk.start();
        if (refused != 0) {
            throw new AssertionError("the program was refused: " + refused);
        }
        return desk;
    }

    static void add(ReactionDesk desk, int... pairs) {
        for (int i = 0; i + 1 < pairs.length; i += 2) {
            if (desk.put(pairs[i], pairs[i + 1]) == ReactionDesk.NONE) {
                throw new AssertionError("statement " + i / 2 + " was not taken");
            }
        }
    }

    static void repeat(ReactionDesk desk, int times, int... pairs) {
        for (int i = 0; i < times; i++) {
            add(desk, pairs);
        }
    }

    /**
     * Tells statements in words, each ahead of those that it has, and answers what the last put did. "not 4" is
     * the test whether signal 4 is absent; brackets, commas and semicolons are there for the reader alone.
     */
    static int tell(ReactionDesk desk, String words) {
        String[] all = words.replaceAll("[(),;]", " ").trim().split("\\s+");
        int due = desk.count(1);
        for (int i = 0; i < all.length; i++) {
            int sort = WORDS.indexOf(all[i]);
            int x = 0;
            if (hasOperand(sort)) {
                i++;
                boolean absent = all[i].equals("not");
                int number = Integer.parseInt(all[absent ? ++i : i]);
                x = absent ? -1 - number : number;
            }
            due = desk.put(sort, x);
            if (due == ReactionDesk.NONE) {
                throw new AssertionError("not taken: " + all[i] + " in " + words);
            }
        }
        return due;
    }

    private static boolean hasOperand(int sort) {
        return sort >= EMIT && sort <= SUSPEND || sort == LOCAL;
    }

    static ReactionDesk told(String words) {
        ReactionDesk desk = new ReactionDesk();
        tell(desk, words);
        return desk;
    }

    static ReactionDesk going(String words) {
        ReactionDesk desk = told(words);
        int refused = desk.start();
        if (refused != 0) {
            throw new AssertionError("refused with " + refused + ": " + words);
        }
        return desk;
    }

    /** All that can be asked of a desk without changing it. */
    static String seen(ReactionDesk desk) {
        StringBuilder text = new StringBuilder("counts");
        for (int what = 0; what <= 7; what++) {
            text.append(' ').append(desk.count(what));
        }
        text.append(", statuses ");
        for (int s = 0; s < 16; s++) {
            text.append(desk.status(s));
        }
        text.append(", selected ").append(Integer.toBinaryString(selection(desk)));
        if (desk.count(7) == 1) {
            text.append(", reacts ").append(desk.reacts()).append(", emits");
            for (int s = 4; s < 16; s++) {
                text.append(' ').append(Integer.toHexString(desk.emits(s)));
            }
        }
        return text.toString();
    }

    /** The pauses that are selected, as bits. */
    static int selection(ReactionDesk desk) {
        int bits = 0;
        int pauses = desk.count(2);
        for (int k = 0; k < pauses; k++) {
            if (desk.selected(k)) {
                bits |= 1 << k;
            }
        }
        return bits;
    }

    /** The signals whose status is the given one, as bits. */
    static int signals(ReactionDesk desk, int status) {
        int bits = 0;
        for (int s = 0; s < 16; s++) {
            if (desk.status(s) == status) {
                bits |= 1 << s;
            }
        }
        return bits;
    }
}
