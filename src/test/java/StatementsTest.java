/** The document's terms, sentence by sentence: signals, tests, statements and weights, with their edges. */
public final class StatementsTest {
    private static final Check CHECK = new Check("StatementsTest");
    private static final Class<IllegalArgumentException> ARGUMENT = IllegalArgumentException.class;
    private static final int MIN = Integer.MIN_VALUE;
    private static final int MAX = Integer.MAX_VALUE;

    public static void main(String[] args) {
        inputsAreGiven();
        othersAreEmitted();
        testsOfPresence();
        suspendTests();
        sorts();
        statementsWithoutOperand();
        emits();
        exits();
        exitsOfNoTrap();
        tests();
        locals();
        localsAreOfTheirOwn();
        pausesAreNumbered();
        weightsOfParts();
        weightsAddUp();
        CHECK.end();
    }

    private static void inputsAreGiven() {
        CHECK.sentence("SIGNALS 0 .. 15: 0 .. 3 are INPUTS");
        for (int inputs = 0; inputs <= 15; inputs++) {
            ReactionDesk desk = Told.going("nothing");
            CHECK.same("instant(" + inputs + ")", desk.instant(inputs), 1);
            CHECK.same("present on " + inputs, Told.signals(desk, 1), inputs);
        }
    }

    private static void othersAreEmitted() {
        CHECK.sentence("the others are emitted");
        for (int s = 4; s <= 15; s++) {
            ReactionDesk desk = Told.going("emit " + s);
            CHECK.same("instant", desk.instant(0), 1);
            CHECK.same("present", Told.signals(desk, 1), 1 << s);
        }
    }

    private static void testsOfPresence() {
        CHECK.sentence("s whether signal s is present, -1 - s whether it is absent");
        for (int s = 0; s <= 15; s++) {
            int yes = s == 4 ? 6 : 4;
            int no = s == 5 ? 6 : 5;
            String branches = " (emit " + yes + ") (emit " + no + ")";
            tested("present " + s + branches, s, yes, no);
            tested("present not " + s + branches, s, no, yes);
        }
    }

    private static void tested(String words, int s, int whenPresent, int whenAbsent) {
        boolean input = s < 4;
        ReactionDesk with = Told.going("par " + (input ? "nothing " : "emit " + s + " ") + words);
        CHECK.same(words, with.instant(input ? 1 << s : 0), 1);
        CHECK.same(words + " with it", Told.signals(with, 1), 1 << s | 1 << whenPresent);
        ReactionDesk without = Told.going("par nothing " + words);
        int others = input ? 15 & ~(1 << s) : 15;
        CHECK.same(words, without.instant(others), 1);
        CHECK.same(words + " without it", Told.signals(without, 1), others | 1 << whenAbsent);
    }

    private static void suspendTests() {
        CHECK.sentence("5 SUSPEND x, a test, and one.");
        for (int s = 0; s <= 15; s++) {
            for (int with = 0; with <= 1; with++) {
                suspended("suspend " + s, s, with == 1, with == 1);
                suspended("suspend not " + s, s, with == 1, with == 0);
            }
        }
    }

    private static void suspended(String words, int s, boolean with, boolean stays) {
        boolean input = s < 4;
        String beside = with && !input ? "seq pause emit " + s : "seq pause nothing";
        ReactionDesk desk = Told.going("par (" + words + " pause) (" + beside + ")");
        String what = words + (with ? " with it" : " without it");
        CHECK.same(what + " starts", desk.instant(0), 0);
        CHECK.same(what, desk.instant(with && input ? 1 << s : 0), stays ? 0 : 1);
        CHECK.same(what + ", selected", desk.selected(0), stays);
    }

    private static void sorts() {
        CHECK.sentence("STATEMENTS, told one by one, each ahead of those that it has");
        int[] parts = {0, 0, 0, 0, 2, 1, 2, 2, 1, 1, 1};
        for (int sort = 0; sort <= 10; sort++) {
            ReactionDesk desk = Told.told("par trap");
            int x = sort == Told.EMIT || sort == Told.LOCAL ? 4 : 0;
            CHECK.same("due after " + Told.WORDS.get(sort), desk.put(sort, x), 1 + parts[sort]);
            for (int left = parts[sort]; left > 0; left--) {
                CHECK.same("due after a part of " + Told.WORDS.get(sort), desk.put(0, 0), left);
            }
            CHECK.same("due after what stands beside", desk.put(0, 0), 0);
        }
        for (int sort : new int[] {-1, 11, 12, 16, 256, -11, -256, MIN, MIN + 1, MAX}) {
            ReactionDesk desk = Told.told("par trap");
            CHECK.refuses("sort " + sort, ARGUMENT, desk, () -> desk.put(sort, 0));
            CHECK.refuses("sort " + sort, ARGUMENT, desk, () -> desk.put(sort, 4));
        }
    }

    private static void statementsWithoutOperand() {
        CHECK.sentence("or not 0 where none is said");
        for (String word : new String[] {"nothing", "pause", "seq", "par", "loop", "trap"}) {
            int sort = Told.WORDS.indexOf(word);
            refusesEach(sort, -1, 1, 2, 4, 15, 16, MIN, MAX);
            CHECK.same(word, new ReactionDesk().put(sort, 0) >= 0, true);
        }
    }

    private static void refusesEach(int sort, int... xs) {
        for (int x : xs) {
            ReactionDesk desk = Told.told("trap");
            CHECK.refuses(Told.WORDS.get(sort) + " " + x, ARGUMENT, desk, () -> desk.put(sort, x));
        }
    }

    private static void emits() {
        CHECK.sentence("2 EMIT x, a signal 4 .. 15");
        refusesEach(Told.EMIT, 3, 2, 1, 0, -1, -4, -5, -16, 16, 17, 20, 36, MIN, MIN + 4, MAX);
        for (int s = 4; s <= 15; s++) {
            CHECK.same("emit " + s, new ReactionDesk().put(Told.EMIT, s), 0);
        }
    }

    /** Trap i is around a sequence that goes on with an emit of 4 + i; the exit passes those of traps 0 to x. */
    private static void exits() {
        CHECK.sentence("3 EXIT x: of the trap that is x + 1 traps around it from within");
        for (int traps = 1; traps <= 5; traps++) {
            for (int x = 0; x < traps; x++) {
                StringBuilder words = new StringBuilder("exit " + x);
                for (int i = 0; i < traps; i++) {
                    words.insert(0, "trap seq (").append(") emit ").append(4 + i);
                }
                ReactionDesk desk = Told.going(words.toString());
                CHECK.same(words.toString(), desk.instant(0), 1);
                int outside = (1 << traps) - 1 & -(2 << x);
                CHECK.same(words + ", emitted", Told.signals(desk, 1), outside << 4);
            }
        }
    }

    private static void exitsOfNoTrap() {
        CHECK.sentence("x not as said there (an exit of no trap");
        for (int traps = 0; traps <= 5; traps++) {
            for (int x : new int[] {traps, traps + 1, 5, 6, 32, -1, -2, MIN, MAX}) {
                ReactionDesk desk = new ReactionDesk();
                Told.repeat(desk, traps, Told.TRAP, 0);
                if (x < 0 || x >= traps) {
                    CHECK.refuses("exit " + x + " in " + traps, ARGUMENT, desk, () -> desk.put(Told.EXIT, x));
                }
            }
        }
        ReactionDesk beside = Told.told("par trap exit 0");
        CHECK.refuses("a trap beside", ARGUMENT, beside, () -> beside.put(Told.EXIT, 0));
        ReactionDesk second = Told.told("seq (trap trap par (exit 1) (exit 0))");
        CHECK.refuses("traps in the first of two", ARGUMENT, second, () -> second.put(Told.EXIT, 0));
        ReactionDesk between = Told.told("trap (par (trap nothing)");
        CHECK.refuses("two traps, but one around", ARGUMENT, between, () -> between.put(Told.EXIT, 1));
        CHECK.same("the one around", between.put(Told.EXIT, 0), 0);
    }

    private static void tests() {
        CHECK.sentence("a test of no signal");
        refusesEach(Told.PRESENT, 16, 17, 31, 32, -17, -18, -32, -33, MIN, MIN + 1, MAX, MAX - 1);
        refusesEach(Told.SUSPEND, 16, 17, 31, 32, -17, -18, -32, -33, MIN, MIN + 1, MAX, MAX - 1);
        for (int x = -16; x <= 15; x++) {
            CHECK.same("present " + x, new ReactionDesk().put(Told.PRESENT, x), 2);
            CHECK.same("suspend " + x, new ReactionDesk().put(Told.SUSPEND, x), 1);
        }
    }

    private static void locals() {
        CHECK.sentence("10 LOCAL x, a signal 4 .. 15, and one");
        refusesEach(Told.LOCAL, 3, 2, 1, 0, -1, -4, -5, -16, 16, 17, 20, 36, MIN, MIN + 4, MAX);
        for (int s = 4; s <= 15; s++) {
            CHECK.same("local " + s, new ReactionDesk().put(Told.LOCAL, s), 1);
        }
    }

    private static void localsAreOfTheirOwn() {
        CHECK.sentence("within it x is a signal of its own");
        for (int s = 4; s <= 15; s++) {
            int a = s == 4 ? 6 : 4;
            int b = s == 5 ? 7 : 5;
            String test = "present " + s + " (emit " + a + ") (emit " + b + ")";
            ReactionDesk inside = Told.going("par (local " + s + " emit " + s + ") (" + test + ")");
            CHECK.same("emitted within", inside.instant(0), 1);
            CHECK.same("emitted within, tested outside", Told.signals(inside, 1), 1 << b);
            ReactionDesk outside = Told.going("par (emit " + s + ") (local " + s + " " + test + ")");
            CHECK.same("emitted outside", outside.instant(0), 1);
            CHECK.same("emitted outside, tested within", Told.signals(outside, 1), 1 << s | 1 << b);
            ReactionDesk after = Told.going("par (local " + s + " nothing) (par (" + test + ") (emit " + s + "))");
            CHECK.same("told after it", after.instant(0), 1);
            CHECK.same("tested outside, told after it", Told.signals(after, 1), 1 << s | 1 << a);
        }
    }

    private static void pausesAreNumbered() {
        CHECK.sentence("PAUSES are numbered in the order in which they were told");
        ReactionDesk desk = Told.going("par (seq pause pause) (par (seq nothing pause) (seq emit 4 seq pause pause))");
        CHECK.same("pauses", desk.count(2), 5);
        CHECK.same("first instant", desk.instant(0), 0);
        CHECK.same("selected", Told.selection(desk), 1 | 4 | 8);
        CHECK.same("second instant", desk.instant(0), 0);
        CHECK.same("selected", Told.selection(desk), 2 | 16);
    }

    private static void weightsOfParts() {
        CHECK.sentence("A statement's WEIGHT is 1 and how many loops, and second statements of sequences, it lies in.");
        for (int sort = Told.PRESENT; sort <= Told.LOCAL; sort++) {
            ReactionDesk desk = new ReactionDesk();
            desk.put(sort, sort == Told.LOCAL ? 4 : 0);
            String name = Told.WORDS.get(sort);
            CHECK.same(name + " itself", desk.count(4), 1);
            desk.put(0, 0);
            int first = sort == Told.LOOP ? 2 : 1;
            CHECK.same(name + " and its first", desk.count(4), 1 + first);
            if (desk.count(1) > 0) {
                desk.put(0, 0);
                int second = sort == Told.SEQUENCE ? 2 : 1;
                CHECK.same(name + " and both", desk.count(4), 1 + first + second);
            }
        }
    }

    private static void weighs(String words, int due) {
        CHECK.same(words, Told.told(words).count(4), due);
    }

    private static void weightsAddUp() {
        weighs("nothing", 1);
        weighs("loop loop loop pause", 1 + 2 + 3 + 4);
        weighs("seq nothing seq nothing seq nothing nothing", 1 + 1 + 2 + 2 + 3 + 3 + 4);
        weighs("seq seq seq nothing nothing nothing nothing", 1 + 1 + 1 + 1 + 2 + 2 + 2);
        weighs("loop seq pause loop seq pause pause", 1 + 2 + 2 + 3 + 4 + 4 + 5);
        weighs("par (loop pause) (nothing)", 1 + 1 + 2 + 1);
        weighs("par (seq nothing nothing) (nothing)", 1 + 1 + 1 + 2 + 1);
        weighs("seq (loop seq pause pause) (trap par (exit 0) (nothing))", 1 + 1 + 2 + 2 + 3 + 2 + 2 + 2 + 2);
    }
}
