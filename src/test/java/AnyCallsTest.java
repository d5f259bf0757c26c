import java.util.Random;

/** Any calls in any state, right and wrong, compared with the slow model: all promises, and the limits. */
public final class AnyCallsTest {
    private static final Check CHECK = new Check("AnyCallsTest");
    private static final int OBJECTS = 3000;
    private static final int CALLS = 512;
    private static final int[] ODD = {-1, -2, 16, 17, 31, 32, 33, 11, 8, -16, -17, 5, Integer.MIN_VALUE, Integer.MAX_VALUE};
    /** Sorts to choose from: each row comes to another limit. */
    private static final int[][] SORTS = {
        {0, 1, 2, 2, 3, 4, 4, 5, 6, 6, 7, 7, 8, 9, 10},
        {0, 2, 7, 7, 7, 4, 1, 0, 2},
        {1, 1, 1, 7, 7, 6},
        {5, 5, 5, 5, 5, 5, 7, 5, 5, 5, 0},
        {9, 9, 8, 3, 3, 7, 6, 1},
        {8, 8, 8, 8, 6, 7, 1, 7, 8, 8},
        {6, 6, 6, 1, 2, 8, 6, 3}
    };

    private final Random random;
    private final int[] sorts;
    private final ReactionDesk desk = new ReactionDesk();
    private final ModelDesk model = new ModelDesk();
    private int locals;

    private AnyCallsTest(int seed) {
        random = new Random(seed);
        sorts = SORTS[seed % SORTS.length];
    }

    public static void main(String[] args) {
        for (int seed = 0; seed < OBJECTS && CHECK.isRight(); seed++) {
            AnyCallsTest test = new AnyCallsTest(seed);
            for (int i = 0; i < CALLS && CHECK.isRight(); i++) {
                test.call("object " + seed + ", call " + i + ", ");
            }
        }
        CHECK.end();
    }

    /** An answer that is asked for. */
    private interface Asked {
        Object answer();
    }

    private void compare(String what, String due, Asked asked) {
        String got;
        try {
            got = String.valueOf(asked.answer());
        } catch (RuntimeException e) {
            got = e.getClass().getSimpleName();
        }
        CHECK.same(what, got, due);
    }

    private int number(int bound) {
        return random.nextInt(12) == 0 ? ODD[random.nextInt(ODD.length)] : random.nextInt(bound);
    }

    private void call(String here) {
        if (model.count(1).equals("0") && random.nextInt(3) > 0) {
            run(here);
        } else if (random.nextInt(10) > 0) {
            put(here);
        } else {
            ask(here);
        }
    }

    private void put(String here) {
        int sort = random.nextInt(40) == 0 ? number(11) : sorts[random.nextInt(sorts.length)];
        // Each local doubles the model's time.
        if (sort == Told.LOCAL && ++locals > 5) {
            sort = Told.SUSPEND;
        }
        tell(here, sort, operand(sort));
    }

    private void tell(String here, int sort, int x) {
        compare(here + "put(" + sort + ", " + x + ")", model.put(sort, x), () -> desk.put(sort, x));
    }

    private int operand(int sort) {
        switch (sort) {
            case Told.EMIT, Told.LOCAL:
                return random.nextInt(15) == 0 ? number(18) : 4 + random.nextInt(4);
            case Told.EXIT:
                return number(3);
            case Told.PRESENT, Told.SUSPEND:
                return random.nextInt(15) == 0 ? number(18) : random.nextInt(16) - 8;
            default:
                return random.nextInt(30) == 0 ? number(3) : 0;
        }
    }

    private void run(String here) {
        int what = random.nextInt(8);
        if (what == 0 || what < 6 && model.count(7).equals("0")) {
            compare(here + "start()", model.start(), desk::start);
        } else if (what < 5) {
            int inputs = number(16);
            compare(here + "instant(" + inputs + ")", model.instant(inputs), () -> desk.instant(inputs));
        } else {
            ask(here);
        }
    }

    private void ask(String here) {
        int n = number(16);
        switch (random.nextInt(12)) {
            case 0, 1, 2:
                compare(here + "status(" + n + ")", model.status(n), () -> desk.status(n));
                break;
            case 3, 4:
                compare(here + "selected(" + n + ")", model.selected(n), () -> desk.selected(n));
                break;
            case 5:
                compare(here + "reacts()", model.reacts(), desk::reacts);
                break;
            case 6:
                compare(here + "emits(" + n + ")", model.emits(n), () -> desk.emits(n));
                break;
            case 7:
                clear(here);
                break;
            default:
                compare(here + "count(" + n % 9 + ")", model.count(n % 9), () -> desk.count(n % 9));
                break;
        }
    }

    /** Seldom where a program has just begun to grow, since only long ones come to the limits. */
    private void clear(String here) {
        int told = Integer.parseInt(model.count(0));
        if (random.nextInt(4) == 0 || told > 60 || model.count(7).equals("2")) {
            compare(here + "clear()", model.clear(), desk::clear);
            locals = 0;
        }
    }
}
