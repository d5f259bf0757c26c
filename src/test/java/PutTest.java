/** Promises 1, 2, 4 and, for what is told, 10: a new object, put, clear, count. */
public final class PutTest {
    private static final Check CHECK = new Check("PutTest");
    private static final Class<IllegalStateException> STATE = IllegalStateException.class;
    private static final Class<IllegalArgumentException> ARGUMENT = IllegalArgumentException.class;
    private static final Class<IndexOutOfBoundsException> INDEX = IndexOutOfBoundsException.class;
    private static final int NONE = ReactionDesk.NONE;

    public static void main(String[] args) {
        newObject();
        dueStatements();
        wrongSorts();
        wrongOperands();
        exitsAndTraps();
        wholeTakesNoMore();
        mostStatements();
        wholeOfMostStatements();
        mostPauses();
        mostDepth();
        mostTraps();
        mostWeight();
        lightestBeyondMostWeight();
        weights();
        clearing();
        clearedPausesAreForgotten();
        countOfOthers();
        CHECK.end();
    }

    private static void counts(String what, ReactionDesk desk, int... due) {
        for (int i = 0; i < due.length; i++) {
            CHECK.same(what + ": count(" + i + ")", desk.count(i), due[i]);
        }
    }

    private static void newObject() {
        empty("new", new ReactionDesk());
    }

    private static void empty(String what, ReactionDesk desk) {
        counts(what, desk, 0, 1, 0, 0, 0, 0, 0, 0);
        CHECK.same(what + ": absent signals", Told.signals(desk, 0), 0xFFFF);
        CHECK.fails(what + ": selected", INDEX, () -> desk.selected(0));
        CHECK.fails(what + ": start", STATE, desk::start);
        CHECK.fails(what + ": instant", STATE, () -> desk.instant(0));
        CHECK.fails(what + ": instant on wrong inputs", STATE, () -> desk.instant(16));
        CHECK.fails(what + ": reacts", STATE, desk::reacts);
        CHECK.fails(what + ": emits", STATE, () -> desk.emits(4));
        CHECK.fails(what + ": emits of a wrong signal", STATE, () -> desk.emits(16));
        CHECK.same(what + ": clear", desk.clear(), 0);
    }

    private static void dueStatements() {
        int[] parts = {0, 0, 0, 0, 2, 1, 2, 2, 1, 1, 1};
        for (int sort = 0; sort <= 10; sort++) {
            ReactionDesk desk = Told.desk(Told.TRAP, 0, Told.PARALLEL, 0);
            int x = sort == Told.EMIT || sort == Told.LOCAL ? 4 : 0;
            CHECK.same("put of sort " + sort, desk.put(sort, x), 1 + parts[sort]);
            counts("after sort " + sort, desk, 3, 1 + parts[sort], sort == Told.PAUSE ? 1 : 0, sort == Told.LOOP ? 1 : 0);
            CHECK.fails("start of a part", STATE, desk::start);
        }
        ReactionDesk desk = new ReactionDesk();
        CHECK.same("sequence", desk.put(Told.SEQUENCE, 0), 2);
        CHECK.same("pause", desk.put(Told.PAUSE, 0), 1);
        CHECK.same("selected before the start", desk.selected(0), false);
        CHECK.fails("no pause 1 yet", INDEX, () -> desk.selected(1));
        CHECK.same("last pause", desk.put(Told.PAUSE, 0), 0);
        CHECK.same("selected before the start", desk.selected(1), false);
        CHECK.fails("no pause 2", INDEX, () -> desk.selected(2));
        CHECK.fails("no pause -1", INDEX, () -> desk.selected(-1));
        counts("whole", desk, 3, 0, 2, 0, 4, 0, 0, 0);
    }

    private static void refusesAll(ReactionDesk desk, int sort, int... xs) {
        int told = desk.count(0);
        for (int x : xs) {
            CHECK.fails("put(" + sort + ", " + x + ")", ARGUMENT, () -> desk.put(sort, x));
        }
        CHECK.same("statements after refusals", desk.count(0), told);
    }

    private static void wrongSorts() {
        ReactionDesk desk = new ReactionDesk();
        for (int sort : new int[] {-1, 11, Integer.MIN_VALUE, Integer.MAX_VALUE}) {
            refusesAll(desk, sort, 0, 4);
        }
        counts("after wrong sorts", desk, 0, 1);
    }

    private static void wrongOperands() {
        int min = Integer.MIN_VALUE;
        int max = Integer.MAX_VALUE;
        ReactionDesk desk = Told.desk(Told.TRAP, 0);
        for (int sort : new int[] {Told.NOTHING, Told.PAUSE, Told.SEQUENCE, Told.PARALLEL, Told.LOOP, Told.TRAP}) {
            refusesAll(desk, sort, -1, 1, 4, min, max);
        }
        refusesAll(desk, Told.EMIT, 3, 0, -1, 16, -5, min, max);
        refusesAll(desk, Told.LOCAL, 3, 0, -1, 16, -5, min, max);
        refusesAll(desk, Told.PRESENT, 16, -17, min, max);
        refusesAll(desk, Told.SUSPEND, 16, -17, min, max);
        refusesAll(desk, Told.EXIT, 1, -1, min, max);
        counts("after wrong operands", desk, 1, 1, 0, 0, 1);
        CHECK.same("present 15", Told.desk().put(Told.PRESENT, 15), 2);
        CHECK.same("present -16", Told.desk().put(Told.PRESENT, -16), 2);
        CHECK.same("suspend 15", Told.desk().put(Told.SUSPEND, 15), 1);
        CHECK.same("suspend -16", Told.desk().put(Told.SUSPEND, -16), 1);
        CHECK.same("emit 4", Told.desk().put(Told.EMIT, 4), 0);
        CHECK.same("emit 15", Told.desk().put(Told.EMIT, 15), 0);
        CHECK.same("local 4", Told.desk().put(Told.LOCAL, 4), 1);
        CHECK.same("local 15", Told.desk().put(Told.LOCAL, 15), 1);
    }

    private static void exitsAndTraps() {
        refusesAll(new ReactionDesk(), Told.EXIT, 0);
        ReactionDesk desk = Told.desk(Told.SEQUENCE, 0, Told.TRAP, 0, Told.TRAP, 0, Told.LOOP, 0);
        refusesAll(desk, Told.EXIT, 2);
        CHECK.same("exit of the outer trap", desk.put(Told.EXIT, 1), 1);
        // The traps lie in the first statement of the sequence, not around the second.
        refusesAll(desk, Told.EXIT, 0);
        CHECK.same("the second statement", desk.put(Told.NOTHING, 0), 0);
    }

    private static void wholeTakesNoMore() {
        ReactionDesk desk = Told.desk(Told.NOTHING, 0);
        CHECK.fails("put in a whole program", STATE, () -> desk.put(Told.NOTHING, 0));
        CHECK.fails("a wrong sort in a whole program", STATE, () -> desk.put(11, 0));
        CHECK.fails("a wrong x in a whole program", STATE, () -> desk.put(Told.PAUSE, 1));
        desk.start();
        CHECK.fails("put while it goes", STATE, () -> desk.put(Told.NOTHING, 0));
        counts("whole", desk, 1, 0, 0, 0, 1, 0, 0, 1);
        desk.instant(0);
        CHECK.fails("put when it has ended", STATE, () -> desk.put(Told.NOTHING, 0));
    }

    private static ReactionDesk comb(int parallels) {
        ReactionDesk desk = new ReactionDesk();
        Told.repeat(desk, parallels, Told.PARALLEL, 0);
        return desk;
    }

    private static void mostStatements() {
        ReactionDesk desk = comb(20);
        Told.add(desk, Told.NOTHING, 0);
        Told.repeat(desk, 14, 7, 0, 7, 0, 0, 0, 0, 0, 7, 0, 0, 0, 0, 0);
        CHECK.same("due after 119", desk.count(1), 6);
        CHECK.same("statement 120", desk.put(Told.NOTHING, 0), 5);
        CHECK.same("statement 121", desk.put(Told.NOTHING, 0), NONE);
        CHECK.same("statement 121", desk.put(Told.TRAP, 0), NONE);
        refusesAll(desk, Told.PAUSE, 1);
        counts("at 120", desk, 120, 5, 0, 0, 120, 0, 0, 0);
        CHECK.fails("start", STATE, desk::start);
        CHECK.same("clear", desk.clear(), 120);
    }

    private static void wholeOfMostStatements() {
        ReactionDesk desk = comb(20);
        Told.add(desk, Told.EMIT, 15);
        Told.repeat(desk, 19, 7, 0, 7, 0, 1, 0, 0, 0, 2, 4);
        Told.add(desk, Told.TRAP, 0, Told.PARALLEL, 0, Told.NOTHING, 0);
        CHECK.same("statement 120", desk.put(Told.EXIT, 0), 0);
        counts("whole at 120", desk, 120, 0, 19, 0, 120);
        CHECK.same("start", desk.start(), 0);
        CHECK.same("instant", desk.instant(0), 0);
        CHECK.same("emitted", Told.signals(desk, 1), 0x8010);
        CHECK.same("selected", desk.count(6), 19);
        CHECK.same("instant", desk.instant(0), 1);
    }

    private static void mostPauses() {
        ReactionDesk desk = comb(20);
        Told.add(desk, Told.PAUSE, 0);
        Told.repeat(desk, 15, 7, 0, 1, 0, 1, 0);
        Told.add(desk, 7, 0);
        CHECK.same("pause 31", desk.put(Told.PAUSE, 0), 5);
        CHECK.same("pause 32", desk.put(Told.PAUSE, 0), NONE);
        refusesAll(desk, Told.PAUSE, 1);
        counts("32 pauses", desk, 68, 5, 32);
        CHECK.same("another statement", desk.put(Told.NOTHING, 0), 4);
        Told.repeat(desk, 4, Told.NOTHING, 0);
        CHECK.same("start", desk.start(), 0);
        CHECK.same("instant", desk.instant(0), 0);
        CHECK.same("selected pauses", desk.count(6), 32);
        CHECK.same("pause 31 is selected", desk.selected(31), true);
        CHECK.fails("pause 32", INDEX, () -> desk.selected(32));
        CHECK.same("instant", desk.instant(0), 1);
        CHECK.same("selected pauses", desk.count(6), 0);
    }

    private static void mostDepth() {
        ReactionDesk desk = new ReactionDesk();
        Told.repeat(desk, 23, Told.LOCAL, 5);
        CHECK.same("statement at depth 24", desk.put(Told.SUSPEND, 5), 1);
        CHECK.same("statement at depth 25", desk.put(Told.NOTHING, 0), NONE);
        CHECK.same("statement at depth 25", desk.put(Told.LOCAL, 5), NONE);
        refusesAll(desk, Told.LOCAL, 0);
        counts("at depth 24", desk, 24, 1, 0, 0, 24);
        desk.clear();
        Told.repeat(desk, 23, Told.PARALLEL, 0);
        CHECK.same("leaf at depth 24", desk.put(Told.NOTHING, 0), 23);
        CHECK.same("its brother", desk.put(Told.TRAP, 0), 23);
        CHECK.same("statement at depth 25", desk.put(Told.NOTHING, 0), NONE);
        desk.clear();
        Told.repeat(desk, 23, Told.LOCAL, 5);
        CHECK.same("leaf at depth 24", desk.put(Told.PAUSE, 0), 0);
        CHECK.same("start", desk.start(), 0);
        CHECK.same("instant", desk.instant(0), 0);
        CHECK.same("instant", desk.instant(0), 1);
    }

    private static void mostTraps() {
        ReactionDesk desk = Told.desk(Told.PARALLEL, 0);
        Told.repeat(desk, 5, Told.TRAP, 0);
        CHECK.same("trap 6 within", desk.put(Told.TRAP, 0), NONE);
        refusesAll(desk, Told.TRAP, 1);
        refusesAll(desk, Told.EXIT, 5);
        CHECK.same("exit of the outermost", desk.put(Told.EXIT, 4), 1);
        CHECK.same("a trap beside", desk.put(Told.TRAP, 0), 1);
        CHECK.same("exit", desk.put(Told.EXIT, 0), 0);
        counts("traps", desk, 9, 0, 0, 0, 9);
        desk.start();
        CHECK.same("instant", desk.instant(0), 1);
    }

    private static void mostWeight() {
        ReactionDesk desk = new ReactionDesk();
        Told.repeat(desk, 15, Told.LOOP, 0);
        CHECK.same("15 loops", desk.count(4), 120);
        Told.repeat(desk, 8, Told.PARALLEL, 0);
        Told.repeat(desk, 6, Told.NOTHING, 0);
        CHECK.same("344", desk.count(4), 344);
        CHECK.same("to 360", desk.put(Told.NOTHING, 0), 2);
        CHECK.same("beyond 360", desk.put(Told.NOTHING, 0), NONE);
        refusesAll(desk, Told.NOTHING, 1);
        counts("at weight 360", desk, 30, 2, 0, 15, 360);
        desk.clear();
        Told.repeat(desk, 15, Told.LOOP, 0);
        Told.repeat(desk, 7, Told.PARALLEL, 0);
        Told.repeat(desk, 7, Told.PAUSE, 0);
        CHECK.same("whole at weight 360", desk.put(Told.PAUSE, 0), 0);
        counts("whole at weight 360", desk, 30, 0, 8, 15, 360);
        CHECK.same("start", desk.start(), 0);
        CHECK.same("instant", desk.instant(0), 0);
        CHECK.same("instant", desk.instant(0), 0);
        CHECK.same("selected", desk.count(6), 8);
    }

    private static void lightestBeyondMostWeight() {
        ReactionDesk desk = comb(5);
        Told.repeat(desk, 15, Told.LOOP, 0);
        Told.add(desk, 7, 0, 7, 0, 7, 0, 0, 0, 0, 0, 7, 0, 0, 0, 0, 0, 7, 0, 7, 0, 0, 0, 0, 0, 0, 0);
        Told.repeat(desk, 3, 7, 0, 7, 0, 0, 0, 0, 0, 7, 0, 0, 0, 0, 0);
        Told.add(desk, 9, 0, 7, 0, 7, 0, 0, 0, 0, 0);
        CHECK.same("359", desk.count(4), 359);
        CHECK.same("to 360", desk.put(Told.NOTHING, 0), 1);
        CHECK.same("to 361", desk.put(Told.NOTHING, 0), NONE);
        counts("at weight 360", desk, 60, 1, 0, 15, 360);
    }

    private static void weights() {
        ReactionDesk desk = Told.desk(6, 0, 6, 0, 0, 0, 0, 0, 6, 0, 0, 0, 0, 0);
        counts("sequences of sequences", desk, 7, 0, 0, 0, 12);
        desk = Told.desk(7, 0, 4, 0, 0, 0, 0, 0, 5, 0, 9, 0, 10, 4, 0, 0);
        counts("no loop, no sequence", desk, 8, 0, 0, 0, 8);
        desk = Told.desk(8, 0, 8, 0, 6, 0, 1, 0, 8, 0, 1, 0);
        counts("loops", desk, 6, 0, 2, 3, 1 + 2 + 3 + 3 + 4 + 5);
    }

    private static void clearing() {
        ReactionDesk desk = Told.desk(8, 0, 6, 0, 2, 4, 1, 0);
        desk.start();
        desk.instant(5);
        CHECK.same("clear while it goes", desk.clear(), 4);
        empty("cleared", desk);
        Told.add(desk, 9, 0, 9, 0, 8, 0);
        CHECK.same("clear of a part", desk.clear(), 3);
        empty("cleared", desk);
        // Nothing of what was open before is left over.
        refusesAll(desk, Told.EXIT, 0);
        CHECK.same("whole at once", desk.put(Told.EMIT, 6), 0);
        counts("told anew", desk, 1, 0, 0, 0, 1, 0, 0, 0);
        desk.start();
        CHECK.same("instant", desk.instant(0), 1);
        CHECK.same("clear at the end", desk.clear(), 1);
        empty("cleared", desk);
    }

    private static void clearedPausesAreForgotten() {
        ReactionDesk desk = Told.desk(6, 0, 1, 0, 1, 0);
        desk.clear();
        Told.add(desk, 6, 0, 0, 0, 6, 0, 1, 0, 2, 4);
        desk.start();
        CHECK.same("at the pause", desk.instant(0), 0);
        CHECK.same("behind it", desk.instant(0), 1);
        CHECK.same("emitted", desk.status(4), 1);
    }

    private static void countOfOthers() {
        ReactionDesk desk = Told.started(1, 0);
        for (int what : new int[] {-1, 8, 9, Integer.MIN_VALUE, Integer.MAX_VALUE}) {
            CHECK.same("count(" + what + ")", desk.count(what), NONE);
        }
    }
}
