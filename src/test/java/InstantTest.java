/** Promises 5, 6, 7 and, for what has run, 10: instant, status, selected, count. */
public final class InstantTest {
    private static final Check CHECK = new Check("InstantTest");
    private static final Class<IllegalStateException> STATE = IllegalStateException.class;
    private static final Class<IllegalArgumentException> ARGUMENT = IllegalArgumentException.class;
    private static final Class<IndexOutOfBoundsException> INDEX = IndexOutOfBoundsException.class;

    public static void main(String[] args) {
        wrongCalls();
        inputsAndStatuses();
        emitsAcrossParallel();
        sequences();
        traps();
        trapEmptiesWhatStayed();
        trapStartsAnewInLoop();
        suspends();
        presentResumes();
        noReaction();
        noReactionLater();
        partlyKnown();
        locals();
        localStatusOfItsOwn();
        localInSecondOfSequence();
        localInLoopWithinLoop();
        localWithoutReaction();
        codeWithoutReaction();
        suspendUnknown();
        suspendUnknownBesideAnExit();
        loopNotForSure();
        CHECK.end();
    }

    /** Runs an instant: its answer, the signals 4 to 15 that are present, the pauses that are selected then. */
    private static void step(String what, ReactionDesk desk, int inputs, int answer, int emitted, int selection) {
        CHECK.same(what + " on " + inputs, desk.instant(inputs), answer);
        CHECK.same(what + ": emitted", Told.signals(desk, 1) & 0xFFF0, emitted);
        CHECK.same(what + ": inputs", Told.signals(desk, 1) & 15, inputs);
        CHECK.same(what + ": selected", Told.selection(desk), selection);
        CHECK.same(what + ": count 6", desk.count(6), Integer.bitCount(selection));
        CHECK.same(what + ": count 7", desk.count(7), answer == 1 ? 2 : 1);
        if (answer != 2) {
            CHECK.same(what + ": unknown", Told.signals(desk, 2), 0);
        }
    }

    private static void wrongCalls() {
        ReactionDesk desk = Told.desk(1, 0);
        CHECK.fails("not started", STATE, () -> desk.instant(0));
        CHECK.fails("not started, wrong inputs", STATE, () -> desk.instant(-1));
        desk.start();
        for (int inputs : new int[] {-1, 16, Integer.MIN_VALUE, Integer.MAX_VALUE}) {
            CHECK.fails("inputs " + inputs, ARGUMENT, () -> desk.instant(inputs));
        }
        CHECK.same("no reaction yet", desk.count(5), 0);
        for (int s : new int[] {-1, 16, Integer.MIN_VALUE, Integer.MAX_VALUE}) {
            CHECK.fails("status " + s, INDEX, () -> desk.status(s));
        }
        for (int k : new int[] {-1, 1, 32, Integer.MIN_VALUE, Integer.MAX_VALUE}) {
            CHECK.fails("selected " + k, INDEX, () -> desk.selected(k));
        }
        step("starts", desk, 0, 0, 0, 1);
        step("ends", desk, 15, 1, 0, 0);
        CHECK.fails("ended", STATE, () -> desk.instant(0));
        CHECK.fails("ended, wrong inputs", STATE, () -> desk.instant(16));
        CHECK.same("reactions", desk.count(5), 2);
        CHECK.same("selected at the end", desk.selected(0), false);
        CHECK.same("status at the end", desk.status(3), 1);
    }

    private static void inputsAndStatuses() {
        ReactionDesk desk = Told.started(8, 0, 6, 0, 4, 3, 2, 15, 4, -1, 2, 4, 0, 0, 1, 0);
        step("neither", desk, 1, 0, 0, 1);
        step("the last input", desk, 8, 0, 0x8000, 1);
        step("absence of 0", desk, 6, 0, 0x0010, 1);
        CHECK.same("reactions", desk.count(5), 3);
    }

    private static void emitsAcrossParallel() {
        ReactionDesk desk = Told.started(7, 0, 4, 5, 2, 6, 2, 7, 7, 0, 4, 4, 2, 5, 0, 0, 2, 4);
        step("found from the right to the left", desk, 0, 1, 0x0070, 0);
    }

    private static void sequences() {
        ReactionDesk desk = Told.started(6, 0, 6, 0, 2, 4, 1, 0, 6, 0, 2, 5, 6, 0, 1, 0, 2, 6);
        step("first", desk, 0, 0, 0x10, 1);
        step("second", desk, 0, 0, 0x20, 2);
        step("third", desk, 0, 1, 0x40, 0);
        desk = Told.started(7, 0, 1, 0, 6, 0, 1, 0, 1, 0);
        step("both branches", desk, 0, 0, 0, 3);
        step("one has ended", desk, 0, 0, 0, 4);
        step("the other too", desk, 0, 1, 0, 0);
    }

    private static void traps() {
        ReactionDesk desk = Told.started(6, 0, 9, 0, 6, 0, 9, 0, 7, 0, 3, 1, 3, 0, 2, 4, 2, 5);
        step("the greater exit counts", desk, 0, 1, 0x20, 0);
        desk = Told.started(6, 0, 9, 0, 6, 0, 9, 0, 7, 0, 1, 0, 3, 0, 2, 4, 2, 5);
        step("the inner exit", desk, 0, 1, 0x30, 0);
        desk = Told.started(6, 0, 9, 0, 7, 0, 6, 0, 2, 4, 1, 0, 6, 0, 1, 0, 6, 0, 2, 6, 3, 0, 2, 5);
        step("before the exit", desk, 0, 0, 0x10, 3);
        step("the exit", desk, 0, 1, 0x60, 0);
        desk = Told.started(9, 0, 9, 0, 9, 0, 9, 0, 9, 0, 6, 0, 1, 0, 3, 4);
        step("in five traps", desk, 0, 0, 0, 1);
        step("exit of the outermost", desk, 0, 1, 0, 0);
    }

    private static void trapEmptiesWhatStayed() {
        // trap ( suspend 0 (loop pause) || loop (pause; present 1 exit) ); loop (emit 4; pause)
        ReactionDesk desk = Told.started(6, 0, 9, 0, 7, 0, 5, 0, 8, 0, 1, 0, 8, 0, 6, 0, 1, 0, 4, 1, 3, 0, 0, 0,
            8, 0, 6, 0, 2, 4, 1, 0);
        step("starts", desk, 0, 0, 0, 3);
        step("one stays, one goes", desk, 1, 0, 0, 3);
        step("exit over one that stays", desk, 3, 0, 0x10, 4);
        step("goes on after the trap", desk, 3, 0, 0x10, 4);
    }

    private static void trapStartsAnewInLoop() {
        // loop trap ( loop (pause; emit 4) || pause; pause; exit )
        ReactionDesk desk = Told.started(8, 0, 9, 0, 7, 0, 8, 0, 6, 0, 1, 0, 2, 4, 6, 0, 1, 0, 6, 0, 1, 0, 3, 0);
        step("starts", desk, 0, 0, 0, 3);
        step("second", desk, 0, 0, 0x10, 5);
        step("exit, and anew at once", desk, 0, 0, 0x10, 3);
        step("second again", desk, 0, 0, 0x10, 5);
    }

    private static void suspends() {
        ReactionDesk desk = Told.started(5, 0, 6, 0, 2, 4, 6, 0, 1, 0, 6, 0, 2, 5, 6, 0, 1, 0, 2, 6);
        step("the start is not suspended", desk, 1, 0, 0x10, 1);
        step("stays", desk, 1, 0, 0, 1);
        step("resumes", desk, 0, 0, 0x20, 2);
        step("stays", desk, 3, 0, 0, 2);
        step("resumes", desk, 2, 1, 0x40, 0);
        desk = Told.started(5, -2, 1, 0);
        step("starts", desk, 0, 0, 0, 1);
        step("stays on absence", desk, 0, 0, 0, 1);
        step("resumes on presence", desk, 2, 1, 0, 0);
    }

    private static void presentResumes() {
        ReactionDesk desk = Told.started(8, 0, 4, 0, 6, 0, 1, 0, 2, 4, 6, 0, 1, 0, 2, 5);
        step("first branch", desk, 1, 0, 0, 1);
        step("it resumes whatever the test says now", desk, 0, 0, 0x10, 2);
        step("second branch", desk, 1, 0, 0x20, 1);
    }

    private static void noReaction() {
        ReactionDesk desk = Told.started(4, 0, 4, 4, 2, 4, 0, 0, 6, 0, 1, 0, 2, 5);
        step("no guess", desk, 1, 2, 0, 0);
        CHECK.same("unknown", Told.signals(desk, 2), 0x10);
        step("still none", desk, 3, 2, 0, 0);
        CHECK.same("no reaction so far", desk.count(5), 0);
        step("it starts yet", desk, 0, 0, 0, 1);
        CHECK.same("one reaction", desk.count(5), 1);
        step("and ends", desk, 1, 1, 0x20, 0);
        desk = Told.started(4, -5, 2, 4, 0, 0);
        step("contradiction", desk, 0, 2, 0, 0);
        CHECK.same("unknown", Told.signals(desk, 2), 0x10);
        desk.start();
        CHECK.same("absent again", Told.signals(desk, 0), 0xFFFF);
        desk = Told.started(4, 4, 2, 4, 2, 4);
        step("no guess although both emit", desk, 0, 2, 0, 0);
        CHECK.same("unknown", Told.signals(desk, 2), 0x10);
    }

    private static void noReactionLater() {
        ReactionDesk desk = Told.started(7, 0, 8, 0, 6, 0, 1, 0, 4, 0, 4, -5, 2, 4, 0, 0, 0, 0, 6, 0, 1, 0, 2, 6);
        step("starts", desk, 1, 0, 0, 3);
        step("none", desk, 1, 2, 0x40, 3);
        CHECK.same("unknown", Told.signals(desk, 2), 0x10);
        step("none again", desk, 3, 2, 0x40, 3);
        CHECK.same("reactions", desk.count(5), 1);
        step("on other inputs", desk, 2, 0, 0x40, 1);
        CHECK.same("reactions", desk.count(5), 2);
    }

    private static void partlyKnown() {
        // emit 5 before and 7 after a paradox on 4; 6 in a branch that 4 decides
        ReactionDesk desk = Told.started(6, 0, 2, 5, 6, 0, 4, 4, 6, 0, 2, 4, 2, 6, 1, 0, 2, 7);
        step("none", desk, 0, 2, 0x20, 0);
        CHECK.same("unknown", Told.signals(desk, 2), 0xD0);
        CHECK.same("absent", Told.signals(desk, 0), 0xFF0F);
    }

    private static void locals() {
        ReactionDesk desk = Told.started(7, 0, 10, 4, 7, 0, 2, 4, 4, 4, 2, 5, 2, 6, 4, 4, 2, 7, 2, 8);
        step("the local is not the signal outside", desk, 0, 1, 0x120, 0);
        desk = Told.started(7, 0, 2, 4, 10, 4, 4, 4, 2, 5, 2, 6);
        step("nor the other way round", desk, 0, 1, 0x50, 0);
        desk = Told.started(10, 4, 7, 0, 2, 4, 10, 4, 7, 0, 4, 4, 2, 5, 2, 6, 10, 5, 2, 5);
        step("local within local", desk, 0, 1, 0x40, 0);
    }

    private static void localStatusOfItsOwn() {
        // loop local 4 ( pause; emit 4 || present 4 (emit 5) (emit 6) || pause; present 4 (emit 7) (emit 8) )
        ReactionDesk desk = Told.started(8, 0, 10, 4, 7, 0, 6, 0, 1, 0, 2, 4,
            7, 0, 4, 4, 2, 5, 2, 6, 6, 0, 1, 0, 4, 4, 2, 7, 2, 8);
        step("absent at the start", desk, 0, 0, 0x40, 3);
        step("present where it resumes, absent anew", desk, 0, 0, 0xC0, 3);
        // loop trap loop ( local 4 ( ( pause; emit 4; present 0 (exit of the trap) ) || present 4 (emit 5) ) )
        desk = Told.started(8, 0, 9, 0, 8, 0, 10, 4, 7, 0, 6, 0, 1, 0, 6, 0, 2, 4, 4, 0, 3, 0, 0, 0,
            4, 4, 2, 5, 2, 6);
        step("starts", desk, 0, 0, 0x40, 1);
        step("by the inner loop", desk, 0, 0, 0x40, 1);
        step("by the outer loop", desk, 1, 0, 0x40, 1);
    }

    private static void localInSecondOfSequence() {
        // loop local 5 ( present 0 (pause) (nothing); local 4 ( present 5 (emit 4) || present 4 (emit 6) (emit 7) )
        //     || pause; emit 5 ): the sequence starts its second statement, and then the loop does too
        ReactionDesk desk = Told.started(8, 0, 10, 5, 7, 0, 6, 0, 4, 0, 1, 0, 0, 0,
            10, 4, 7, 0, 4, 5, 2, 4, 0, 0, 4, 4, 2, 6, 2, 7, 6, 0, 1, 0, 2, 5);
        step("starts", desk, 1, 0, 0, 3);
        step("present by the sequence, absent by the loop", desk, 0, 0, 0xC0, 2);
        step("by the loop alone", desk, 0, 0, 0x80, 2);
    }

    private static void localInLoopWithinLoop() {
        // loop local 5 ( trap loop ( local 4 ( present 5 (emit 4) || present 4 (emit 6) (emit 7) );
        //     present 0 (pause) (exit) ) || pause; emit 5 ): the inner loop starts the local, then the outer one
        ReactionDesk desk = Told.started(8, 0, 10, 5, 7, 0, 9, 0, 8, 0, 6, 0, 10, 4, 7, 0, 4, 5, 2, 4, 0, 0,
            4, 4, 2, 6, 2, 7, 4, 0, 1, 0, 3, 0, 6, 0, 1, 0, 2, 5);
        step("starts", desk, 1, 0, 0x80, 3);
        step("present by the inner loop, absent by the outer", desk, 0, 0, 0xC0, 2);
        step("by the outer loop alone", desk, 1, 0, 0x80, 3);
    }

    private static void localWithoutReaction() {
        ReactionDesk desk = Told.started(10, 4, 4, 4, 2, 4, 0, 0);
        step("a local guess", desk, 0, 2, 0, 0);
        CHECK.same("all signals are known", Told.signals(desk, 2), 0);
        desk = Told.started(7, 0, 2, 5, 4, 0, 10, 4, 4, 4, 2, 4, 0, 0, 0, 0);
        step("the local runs", desk, 1, 2, 0x20, 0);
        step("the local does not run", desk, 0, 1, 0x20, 0);
    }

    private static void codeWithoutReaction() {
        // The local's test decides between two exits and nothing is emitted outside.
        ReactionDesk desk = Told.started(9, 0, 9, 0, 10, 9, 4, 9, 6, 0, 2, 9, 3, 0, 3, 1);
        step("no code", desk, 0, 2, 0, 0);
        CHECK.same("all signals are known", Told.signals(desk, 2), 0);
        // An exit of a parallel does not wait for what the other branch does, but its code does.
        desk = Told.started(9, 0, 7, 0, 3, 0, 4, 4, 2, 4, 0, 0);
        step("both must have a code", desk, 0, 2, 0, 0);
    }

    private static void suspendUnknown() {
        // suspend 4 (pause; emit 4) and, beside it, what makes 4 known on input 0
        ReactionDesk desk = Told.started(7, 0, 5, 4, 6, 0, 1, 0, 2, 5, 8, 0, 6, 0, 1, 0, 4, 0, 2, 4, 0, 0);
        step("starts", desk, 0, 0, 0, 3);
        step("suspended by an emitted signal", desk, 1, 0, 0x10, 3);
        step("resumes", desk, 0, 0, 0x20, 2);
        desk = Told.started(5, 4, 6, 0, 1, 0, 2, 4);
        step("starts", desk, 0, 0, 0, 1);
        step("suspended by what it would emit", desk, 0, 2, 0, 1);
        CHECK.same("unknown", Told.signals(desk, 2), 0x10);
        desk = Told.started(5, 4, 6, 0, 1, 0, 2, 5);
        step("starts", desk, 0, 0, 0, 1);
        step("it can't emit the test's signal", desk, 0, 1, 0x20, 0);
    }

    private static void suspendUnknownBesideAnExit() {
        // trap ( trap ( suspend 4 (pause; exit of the outer) || pause; exit of the inner ); emit 4 )
        ReactionDesk desk = Told.started(9, 0, 6, 0, 9, 0, 7, 0, 5, 4, 6, 0, 1, 0, 3, 1, 6, 0, 1, 0, 3, 0, 2, 4);
        step("starts", desk, 0, 0, 0, 3);
        step("if it stays, the inner exit counts, and 4 can be emitted", desk, 0, 2, 0, 3);
        CHECK.same("unknown", Told.signals(desk, 2), 0x10);
    }

    private static void loopNotForSure() {
        // loop ( emit 5; pause; present 4 (pause) (nothing) ) || loop ( pause; present 5 (emit 4) (nothing) )
        ReactionDesk desk = Told.started(7, 0, 8, 0, 6, 0, 2, 5, 6, 0, 1, 0, 4, 4, 1, 0, 0, 0,
            8, 0, 6, 0, 1, 0, 4, 5, 2, 4, 0, 0);
        step("starts", desk, 0, 0, 0x20, 5);
        step("5 rests on 4 and 4 on 5", desk, 0, 2, 0, 5);
        CHECK.same("unknown", Told.signals(desk, 2), 0x30);
    }
}
