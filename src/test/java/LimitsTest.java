/** The document's limits: "NONE, changing nothing, when there would be too many, or too much as said". */
public final class LimitsTest {
    private static final Check CHECK = new Check("LimitsTest");
    private static final Class<IllegalStateException> STATE = IllegalStateException.class;
    private static final Class<IllegalArgumentException> ARGUMENT = IllegalArgumentException.class;
    private static final Class<IndexOutOfBoundsException> INDEX = IndexOutOfBoundsException.class;
    private static final int NONE = ReactionDesk.NONE;

    public static void main(String[] args) {
        statements();
        wholeAtMostStatements();
        pauses();
        wholeAtMostPauses();
        depth();
        depthOfSeconds();
        wholeAtMostDepth();
        traps();
        trapsBesideEachOther();
        weights();
        weightsThatSkipTheLimit();
        wholeAtMostWeight();
        localsAtMostWeight();
        refusedThenTaken();
        wrongBeforeTooMuch();
        limitsAfterClear();
        CHECK.end();
    }

    /** A put that is right but too much. */
    private static void none(ReactionDesk desk, int sort, int x) {
        String before = Told.seen(desk);
        String what = "put(" + sort + ", " + x + ")";
        CHECK.same(what, desk.put(sort, x), NONE);
        CHECK.same(what + ", seen after it", Told.seen(desk), before);
    }

    private static void noneOfAnySort(ReactionDesk desk) {
        String before = Told.seen(desk);
        for (int sort = 0; sort <= 10; sort++) {
            if (sort != Told.EXIT) {
                int x = sort == Told.EMIT || sort == Told.LOCAL ? 4 : 0;
                CHECK.same(Told.WORDS.get(sort), desk.put(sort, x), NONE);
            }
        }
        CHECK.same("seen after all", Told.seen(desk), before);
    }

    private static void counts(ReactionDesk desk, int statements, int due, int pauses, int loops, int weight) {
        CHECK.same("statements", desk.count(0), statements);
        CHECK.same("due", desk.count(1), due);
        CHECK.same("pauses", desk.count(2), pauses);
        CHECK.same("loops", desk.count(3), loops);
        CHECK.same("weights", desk.count(4), weight);
    }

    /** A chain of 20 parallels, whose 21 parts can then be told, each with others in it. */
    private static ReactionDesk wide() {
        ReactionDesk desk = new ReactionDesk();
        Told.repeat(desk, 20, Told.PARALLEL, 0);
        return desk;
    }

    private static void tellEach(ReactionDesk desk, int times, String words) {
        for (int i = 0; i < times; i++) {
            Told.tell(desk, words);
        }
    }

    private static void statements() {
        CHECK.sentence("There are at most 120 statements");
        ReactionDesk desk = wide();
        tellEach(desk, 14, "par (par nothing nothing) (par nothing nothing)");
        Told.tell(desk, "nothing");
        counts(desk, 119, 6, 0, 0, 119);
        CHECK.same("statement 120", desk.put(Told.PARALLEL, 0), 7);
        counts(desk, 120, 7, 0, 0, 120);
        noneOfAnySort(desk);
        CHECK.fails("start", STATE, desk::start);
        CHECK.same("clear", desk.clear(), 120);
    }

    private static void wholeAtMostStatements() {
        ReactionDesk desk = wide();
        tellEach(desk, 19, "par (emit 4) (par pause nothing)");
        Told.tell(desk, "par (nothing) (nothing)");
        counts(desk, 118, 1, 19, 0, 118);
        CHECK.same("statement 119", desk.put(Told.TRAP, 0), 1);
        CHECK.same("statement 120", desk.put(Told.EXIT, 0), 0);
        counts(desk, 120, 0, 19, 0, 120);
        CHECK.refuses("statement 121", STATE, desk, () -> desk.put(0, 0));
        CHECK.same("start", desk.start(), 0);
        CHECK.same("instant", desk.instant(0), 0);
        CHECK.same("selected", Told.selection(desk), (1 << 19) - 1);
        CHECK.same("instant", desk.instant(0), 1);
        CHECK.same("clear", desk.clear(), 120);
    }

    private static void pauses() {
        CHECK.sentence("32 pauses");
        ReactionDesk desk = wide();
        tellEach(desk, 15, "par pause pause");
        Told.tell(desk, "pause");
        counts(desk, 66, 5, 31, 0, 66);
        CHECK.same("pause 31", desk.put(Told.PAUSE, 0), 4);
        none(desk, Told.PAUSE, 0);
        counts(desk, 67, 4, 32, 0, 67);
        CHECK.same("others are taken", Told.tell(desk, "par nothing (local 4 emit 4)"), 3);
        none(desk, Told.PAUSE, 0);
        CHECK.same("others are taken", Told.tell(desk, "nothing nothing nothing"), 0);
        CHECK.refuses("pause 33 when it is whole", STATE, desk, () -> desk.put(Told.PAUSE, 0));
    }

    private static void wholeAtMostPauses() {
        ReactionDesk desk = wide();
        tellEach(desk, 10, "par pause pause");
        Told.tell(desk, "suspend 0 par (par par pause pause par pause pause) (par par pause pause par pause pause)");
        tellEach(desk, 2, "par pause pause");
        Told.tell(desk, "nothing ".repeat(8));
        counts(desk, 20 + 30 + 16 + 6 + 8, 0, 32, 0, 80);
        CHECK.same("start", desk.start(), 0);
        CHECK.same("instant", desk.instant(1), 0);
        CHECK.same("all are selected", Told.selection(desk), -1);
        CHECK.same("their count", desk.count(6), 32);
        CHECK.fails("pause 32", INDEX, () -> desk.selected(32));
        CHECK.same("instant", desk.instant(1), 0);
        CHECK.same("those in the suspend stay", Told.selection(desk), 0x0FF00000);
        CHECK.same("instant", desk.instant(0), 1);
        CHECK.same("none is selected", desk.count(6), 0);
    }

    private static void depth() {
        CHECK.sentence("24 statements within one another (counting both ends)");
        for (int sort = Told.PRESENT; sort <= Told.LOCAL; sort++) {
            // Loops and traps would come to another limit first.
            int x = sort == Told.LOCAL ? 4 : 0;
            if (sort != Told.TRAP && sort != Told.LOOP) {
                ReactionDesk desk = new ReactionDesk();
                Told.repeat(desk, 23, sort, x);
                CHECK.same("statement at depth 24", desk.put(sort, x) >= 0, true);
                CHECK.same("statements", desk.count(0), 24);
                noneOfAnySort(desk);
            }
        }
        ReactionDesk leaf = new ReactionDesk();
        Told.repeat(leaf, 23, Told.PARALLEL, 0);
        CHECK.same("leaf at depth 24", leaf.put(0, 0), 23);
        CHECK.same("its brother", leaf.put(0, 0), 22);
        CHECK.same("at depth 23 again", leaf.put(Told.PARALLEL, 0), 23);
        CHECK.same("at depth 24", leaf.put(Told.LOCAL, 4), 23);
        none(leaf, Told.NOTHING, 0);
    }

    private static void depthOfSeconds() {
        ReactionDesk desk = new ReactionDesk();
        tellEach(desk, 23, "par nothing");
        CHECK.same("second at depth 24", desk.put(Told.SUSPEND, 0), 1);
        noneOfAnySort(desk);
        counts(desk, 47, 1, 0, 0, 47);
    }

    private static void wholeAtMostDepth() {
        ReactionDesk desk = new ReactionDesk();
        tellEach(desk, 7, "local 4 suspend 5 present not 6");
        Told.tell(desk, "trap par");
        CHECK.same("leaf at depth 24", desk.put(Told.PAUSE, 0), 8);
        CHECK.same("its brother", desk.put(Told.EMIT, 4), 7);
        tellEach(desk, 7, "nothing");
        CHECK.same("start", desk.start(), 0);
        CHECK.same("instant", desk.instant(0), 0);
        CHECK.same("selected", Told.selection(desk), 1);
        CHECK.same("instant", desk.instant(0), 1);
    }

    private static void traps() {
        CHECK.sentence("5 traps within one another");
        ReactionDesk desk = Told.told("trap trap par trap seq trap loop");
        CHECK.same("trap 5 within", desk.put(Told.TRAP, 0), 3);
        none(desk, Told.TRAP, 0);
        CHECK.same("another statement", desk.put(Told.PARALLEL, 0), 4);
        none(desk, Told.TRAP, 0);
        CHECK.same("exit of the outermost", desk.put(Told.EXIT, 4), 3);
        CHECK.same("exit of the innermost", desk.put(Told.EXIT, 0), 2);
        CHECK.same("beside three of them", desk.put(Told.TRAP, 0), 2);
        CHECK.same("beside three of them", desk.put(Told.TRAP, 0), 2);
        none(desk, Told.TRAP, 0);
        CHECK.same("exit", Told.tell(desk, "exit 4 nothing"), 0);
        CHECK.same("start", desk.start(), 0);
        CHECK.same("instant", desk.instant(0), 1);
    }

    private static void trapsBesideEachOther() {
        ReactionDesk desk = wide();
        tellEach(desk, 20, "trap exit 0");
        Told.tell(desk, "trap trap trap trap trap");
        none(desk, Told.TRAP, 0);
        CHECK.same("exit", desk.put(Told.EXIT, 4), 0);
        CHECK.same("start", desk.start(), 0);
        CHECK.same("instant", desk.instant(0), 1);
    }

    private static void weights() {
        CHECK.sentence("the weights are 360 at most together");
        ReactionDesk desk = Told.told("par par par par par");
        Told.tell(desk, "loop ".repeat(15) + "par (par par nothing nothing par nothing nothing)");
        Told.tell(desk, "par par nothing nothing nothing");
        tellEach(desk, 3, "par (par nothing nothing) (par nothing nothing)");
        Told.tell(desk, "trap par (par nothing nothing)");
        counts(desk, 59, 2, 0, 15, 359);
        CHECK.same("to 360", desk.put(Told.SUSPEND, 0), 2);
        counts(desk, 60, 2, 0, 15, 360);
        noneOfAnySort(desk);
        none(desk, Told.EXIT, 0);
    }

    private static void weightsThatSkipTheLimit() {
        ReactionDesk desk = new ReactionDesk();
        Told.repeat(desk, 23, Told.LOOP, 0);
        CHECK.same("a leaf in 23 loops", desk.put(Told.PAUSE, 0), 0);
        counts(desk, 24, 0, 1, 23, 300);
        desk.clear();
        Told.tell(desk, "loop ".repeat(18));
        tellEach(desk, 4, "par nothing");
        counts(desk, 26, 1, 0, 18, 171 + 8 * 19);
        CHECK.same("342", Told.tell(desk, "par"), 2);
        CHECK.same("weights", desk.count(4), 342);
        // The next one would weigh 19: 361.
        noneOfAnySort(desk);
        counts(desk, 27, 2, 0, 18, 342);
        desk.clear();
        Told.tell(desk, "seq nothing ".repeat(17));
        CHECK.same("weights", desk.count(4), 17 * 18);
        CHECK.same("18 more", desk.put(Told.PARALLEL, 0), 2);
        CHECK.same("18 more", desk.put(Told.NOTHING, 0), 1);
        CHECK.same("18 more make 360", desk.put(Told.NOTHING, 0), 0);
        counts(desk, 37, 0, 0, 0, 360);
    }

    private static void wholeAtMostWeight() {
        ReactionDesk desk = Told.told("loop ".repeat(15) + "par ".repeat(7));
        tellEach(desk, 7, "pause");
        CHECK.same("344", desk.count(4), 344);
        CHECK.same("to 360", desk.put(Told.PAUSE, 0), 0);
        counts(desk, 30, 0, 8, 15, 360);
        CHECK.same("start", desk.start(), 0);
        CHECK.same("instant", desk.instant(0), 0);
        CHECK.same("instant", desk.instant(0), 0);
        CHECK.same("selected", Told.selection(desk), 255);
    }

    /** The innermost loop starts the local anew, with a status that the local had in no earlier instant. */
    private static void localsAtMostWeight() {
        ReactionDesk desk = Told.told("loop ".repeat(15));
        Told.tell(desk, "par (suspend 0 suspend 0 pause) (par (suspend 0 pause)");
        Told.tell(desk, "local 4 par (present 1 (emit 4) (nothing)) (present 4 (emit 5) (emit 6))");
        counts(desk, 30, 0, 2, 15, 360);
        CHECK.same("start", desk.start(), 0);
        int[] inputs = {2, 0, 2, 3, 0};
        int[] emitted = {0x20, 0x40, 0x20, 0, 0x40};
        for (int i = 0; i < inputs.length; i++) {
            CHECK.same("instant", desk.instant(inputs[i]), 0);
            CHECK.same("emitted", Told.signals(desk, 1) & 0xFFF0, emitted[i]);
            CHECK.same("selected", Told.selection(desk), 3);
        }
    }

    private static void refusedThenTaken() {
        CHECK.sentence("NONE, changing nothing");
        ReactionDesk desk = Told.told("trap trap trap trap trap seq");
        none(desk, Told.TRAP, 0);
        CHECK.same("the first of two", desk.put(Told.PAUSE, 0), 1);
        none(desk, Told.TRAP, 0);
        CHECK.same("the second of two", desk.put(Told.EXIT, 4), 0);
        counts(desk, 8, 0, 1, 0, 9);
        CHECK.same("start", desk.start(), 0);
        CHECK.same("instant", desk.instant(0), 0);
        CHECK.same("instant", desk.instant(0), 1);
    }

    private static void wrongBeforeTooMuch() {
        CHECK.sentence("IllegalStateException when it is whole; else IllegalArgumentException");
        ReactionDesk desk = Told.told("local 4 ".repeat(23) + "suspend 0");
        none(desk, Told.NOTHING, 0);
        CHECK.refuses("a wrong sort", ARGUMENT, desk, () -> desk.put(11, 0));
        CHECK.refuses("a wrong x", ARGUMENT, desk, () -> desk.put(Told.NOTHING, 1));
        CHECK.refuses("an exit of no trap", ARGUMENT, desk, () -> desk.put(Told.EXIT, 0));
        ReactionDesk trapped = Told.told("trap trap trap trap trap");
        CHECK.refuses("a sixth trap that is wrong", ARGUMENT, trapped, () -> trapped.put(Told.TRAP, 1));
        CHECK.refuses("an exit of a sixth trap", ARGUMENT, trapped, () -> trapped.put(Told.EXIT, 5));
        none(trapped, Told.TRAP, 0);
    }

    private static void limitsAfterClear() {
        CHECK.sentence("No program: how many statements there were.");
        ReactionDesk desk = Told.told("trap trap trap trap trap " + "par ".repeat(19));
        none(desk, Told.NOTHING, 0);
        CHECK.same("clear at depth 24", desk.clear(), 24);
        Told.tell(desk, "par ".repeat(16));
        tellEach(desk, 16, "par pause pause");
        none(desk, Told.PAUSE, 0);
        CHECK.same("clear at 32 pauses", desk.clear(), 64);
        Told.tell(desk, "loop ".repeat(15) + "par ".repeat(8) + "pause ".repeat(7));
        none(desk, Told.PAUSE, 0);
        CHECK.same("clear at weight 360", desk.clear(), 30);
        CHECK.same("as new", Told.seen(desk), Told.seen(new ReactionDesk()));
    }
}
