/** Promise 3: start, and which loops it refuses. */
public final class StartTest {
    private static final Check CHECK = new Check("StartTest");
    private static final Class<IllegalStateException> STATE = IllegalStateException.class;

    public static void main(String[] args) {
        notWhole();
        refusedLoops();
        takenLoops();
        refusedStaysIdle();
        startsAnew();
        CHECK.end();
    }

    private static void notWhole() {
        CHECK.fails("start of none", STATE, () -> new ReactionDesk().start());
        ReactionDesk desk = Told.desk(8, 0);
        CHECK.fails("start of a part", STATE, desk::start);
        CHECK.same("it does not go", desk.count(7), 0);
        Told.add(desk, 1, 0);
        CHECK.same("start of the whole", desk.start(), 0);
    }

    private static void start(String what, int due, int... pairs) {
        CHECK.same(what, Told.desk(pairs).start(), due);
    }

    private static void refusedLoops() {
        start("loop of nothing", 1, 8, 0, 0, 0);
        start("loop of emit", 1, 8, 0, 2, 4);
        start("present, the second ends", 1, 8, 0, 4, 0, 1, 0, 0, 0);
        start("present, the first ends", 1, 8, 0, 4, -1, 0, 0, 1, 0);
        start("suspend of nothing", 1, 8, 0, 5, 0, 0, 0);
        start("local of nothing", 1, 8, 0, 10, 4, 0, 0);
        start("sequence of two that end", 1, 8, 0, 6, 0, 2, 4, 0, 0);
        start("sequence, each may end", 1, 8, 0, 6, 0, 4, 0, 1, 0, 0, 0, 4, 0, 1, 0, 0, 0);
        start("parallel of two that end", 1, 8, 0, 7, 0, 0, 0, 2, 4);
        start("exit of the loop's trap", 1, 8, 0, 9, 0, 3, 0);
        start("exit beside a pause", 1, 8, 0, 9, 0, 7, 0, 1, 0, 3, 0);
        start("pause or exit", 1, 8, 0, 9, 0, 4, 0, 1, 0, 3, 0);
        start("exit by one trap more", 1, 8, 0, 9, 0, 9, 0, 3, 1);
        start("the outer is the first", 1, 8, 0, 9, 0, 8, 0, 3, 0);
        start("the second loop", 2, 8, 0, 6, 0, 1, 0, 8, 0, 0, 0);
        start("a third loop, first of two", 3, 7, 0, 8, 0, 1, 0, 7, 0, 8, 0, 1, 0, 7, 0, 8, 0, 0, 0, 8, 0, 0, 0);
        start("a loop that never runs", 2, 6, 0, 8, 0, 1, 0, 8, 0, 0, 0);
    }

    private static void takenLoops() {
        start("loop of pause", 0, 8, 0, 1, 0);
        start("pause then nothing", 0, 8, 0, 6, 0, 1, 0, 0, 0);
        start("nothing then pause", 0, 8, 0, 6, 0, 0, 0, 1, 0);
        start("parallel with a pause", 0, 8, 0, 7, 0, 0, 0, 1, 0);
        start("present of two pauses", 0, 8, 0, 4, 0, 1, 0, 1, 0);
        start("exit of a trap outside", 0, 9, 0, 8, 0, 3, 0);
        start("exit past the trap within", 0, 9, 0, 8, 0, 9, 0, 3, 1);
        start("the greater exit of a parallel", 0, 9, 0, 8, 0, 9, 0, 7, 0, 3, 0, 3, 1);
        start("loop in a loop", 0, 8, 0, 8, 0, 1, 0);
        start("an inner loop never ends", 0, 8, 0, 6, 0, 8, 0, 1, 0, 0, 0);
        start("sequence cut by an exit", 0, 9, 0, 8, 0, 6, 0, 3, 0, 0, 0);
    }

    private static void refusedStaysIdle() {
        ReactionDesk desk = Told.desk(7, 0, 1, 0, 8, 0, 0, 0);
        CHECK.same("refused", desk.start(), 1);
        CHECK.same("refused again", desk.start(), 1);
        CHECK.same("it does not go", desk.count(7), 0);
        CHECK.fails("instant", STATE, () -> desk.instant(0));
        CHECK.fails("reacts", STATE, desk::reacts);
        CHECK.fails("put", STATE, () -> desk.put(0, 0));
        CHECK.same("clear", desk.clear(), 4);
    }

    private static void startsAnew() {
        ReactionDesk desk = Told.desk(6, 0, 2, 4, 6, 0, 1, 0, 6, 0, 2, 5, 1, 0);
        CHECK.same("start", desk.start(), 0);
        CHECK.same("it goes", desk.count(7), 1);
        CHECK.same("instant 1", desk.instant(3), 0);
        CHECK.same("statuses", Told.signals(desk, 1), 0x0013);
        CHECK.same("start while it goes", desk.start(), 0);
        fresh("anew", desk);
        CHECK.same("instant 1 anew", desk.instant(0), 0);
        CHECK.same("statuses", Told.signals(desk, 1), 0x0010);
        CHECK.same("instant 2", desk.instant(0), 0);
        CHECK.same("statuses", Told.signals(desk, 1), 0x0020);
        CHECK.same("selected", Told.selection(desk), 2);
        CHECK.same("instant 3", desk.instant(8), 1);
        CHECK.same("it has ended", desk.count(7), 2);
        CHECK.same("start at the end", desk.start(), 0);
        fresh("after the end", desk);
        CHECK.same("instant 1", desk.instant(0), 0);
        CHECK.same("statuses", Told.signals(desk, 1), 0x0010);
    }

    private static void fresh(String what, ReactionDesk desk) {
        CHECK.same(what + ": absent signals", Told.signals(desk, 0), 0xFFFF);
        CHECK.same(what + ": selection", Told.selection(desk), 0);
        CHECK.same(what + ": reactions", desk.count(5), 0);
        CHECK.same(what + ": selected pauses", desk.count(6), 0);
        CHECK.same(what + ": it goes", desk.count(7), 1);
    }
}
