/** Promises 8 and 9: reacts and emits. */
public final class ForesightTest {
    private static final Check CHECK = new Check("ForesightTest");
    private static final Class<IllegalStateException> STATE = IllegalStateException.class;
    private static final Class<IndexOutOfBoundsException> INDEX = IndexOutOfBoundsException.class;

    public static void main(String[] args) {
        wrongCalls();
        byInputs();
        onlyWithReaction();
        nothingChanges();
        localsAreNotEmitted();
        manyLocals();
        CHECK.end();
    }

    private static void wrongCalls() {
        ReactionDesk desk = Told.desk(1, 0);
        idle("not started", desk);
        desk.start();
        for (int s : new int[] {-1, 0, 3, 16, Integer.MIN_VALUE, Integer.MAX_VALUE}) {
            CHECK.fails("emits(" + s + ")", INDEX, () -> desk.emits(s));
        }
        CHECK.same("emits(4)", desk.emits(4), 0);
        CHECK.same("emits(15)", desk.emits(15), 0);
        desk.instant(0);
        desk.instant(0);
        idle("ended", desk);
        desk.start();
        CHECK.same("started anew", desk.reacts(), 16);
        desk.clear();
        idle("cleared", desk);
    }

    private static void idle(String what, ReactionDesk desk) {
        CHECK.fails(what + ": reacts", STATE, desk::reacts);
        CHECK.fails(what + ": emits(4)", STATE, () -> desk.emits(4));
        CHECK.fails(what + ": emits(3)", STATE, () -> desk.emits(3));
        CHECK.fails(what + ": emits(16)", STATE, () -> desk.emits(16));
    }

    private static void byInputs() {
        ReactionDesk desk = Told.started(7, 0, 4, 0, 2, 4, 4, 3, 2, 5, 1, 0, 2, 15);
        CHECK.same("reacts", desk.reacts(), 16);
        CHECK.same("emits on input 0", desk.emits(4), 0xAAAA);
        CHECK.same("emits on 3 without 0", desk.emits(5), 0x5500);
        CHECK.same("emits always", desk.emits(15), 0xFFFF);
        CHECK.same("emits never", desk.emits(6), 0);
        CHECK.same("instant", desk.instant(0), 0);
        CHECK.same("reacts later", desk.reacts(), 16);
        CHECK.same("emits later", desk.emits(15), 0);
    }

    private static void onlyWithReaction() {
        // emit 5 || present 1 (present 4 (emit 4) (nothing)) (nothing)
        ReactionDesk desk = Told.started(7, 0, 2, 5, 4, 1, 4, 4, 2, 4, 0, 0, 0, 0);
        CHECK.same("reacts without input 1", desk.reacts(), 8);
        CHECK.same("emits where it reacts alone", desk.emits(5), 0x3333);
        CHECK.same("emits no guess", desk.emits(4), 0);
        desk = Told.started(4, -5, 2, 4, 0, 0);
        CHECK.same("reacts on none", desk.reacts(), 0);
        CHECK.same("emits on none", desk.emits(4), 0);
    }

    private static void nothingChanges() {
        ReactionDesk desk = Told.started(8, 0, 6, 0, 1, 0, 4, 0, 4, -5, 2, 4, 0, 0, 6, 0, 1, 0, 2, 6);
        CHECK.same("reacts before the start", desk.reacts(), 16);
        CHECK.same("nothing selected", desk.count(6), 0);
        desk.instant(2);
        CHECK.same("reacts", desk.reacts(), 8);
        CHECK.same("emits", desk.emits(6), 0);
        CHECK.same("statuses stay", Told.signals(desk, 1), 2);
        CHECK.same("none is unknown", Told.signals(desk, 2), 0);
        CHECK.same("selection stays", Told.selection(desk), 1);
        CHECK.same("reactions stay", desk.count(5), 1);
        CHECK.same("it goes", desk.count(7), 1);
        CHECK.same("instant", desk.instant(0), 0);
        CHECK.same("selection", Told.selection(desk), 2);
        CHECK.same("reacts", desk.reacts(), 16);
        CHECK.same("emits", desk.emits(6), 0xFFFF);
        CHECK.same("instant", desk.instant(0), 0);
        CHECK.same("selection", Told.selection(desk), 1);
    }

    private static void localsAreNotEmitted() {
        ReactionDesk desk = Told.started(7, 0, 10, 4, 2, 4, 4, 0, 2, 4, 0, 0);
        CHECK.same("emits the outer one", desk.emits(4), 0xAAAA);
    }

    /** Asking each of twenty locals within one another twice would take a million times as long. */
    private static void manyLocals() {
        ReactionDesk desk = Told.desk(8, 0);
        Told.repeat(desk, 10, 10, 4, 10, 5);
        Told.add(desk, 7, 0, 6, 0, 2, 4, 1, 0, 4, 4, 2, 6, 2, 7);
        CHECK.same("start", desk.start(), 0);
        for (int i = 0; i < 100; i++) {
            CHECK.same("reacts", desk.reacts(), 16);
            CHECK.same("emits", desk.emits(6), 0xFFFF);
            CHECK.same("instant", desk.instant(i % 16), 0);
        }
    }
}
