/** The document's words on instants, sentence by sentence: starting, resuming, locals, reactions, selected pauses. */
public final class ReactionsTest {
    private static final Check CHECK = new Check("ReactionsTest");

    public static void main(String[] args) {
        unknownTests();
        startsThenResumes();
        notForSure();
        startingPresent();
        startingSequence();
        startingParallel();
        startingSuspendAndLoop();
        startingTrap();
        locals();
        localsAskedAnew();
        localsNotForSure();
        resumingPause();
        resumingSequence();
        resumingPresent();
        resumingParallel();
        resumingSuspend();
        resumingSuspendUnknown();
        resumingNotForSure();
        resumingLoop();
        loopAnewOnUnknown();
        localsInLoops();
        resumingTrapAndLocal();
        foundLikeLocals();
        noReaction();
        selectedAtPauses();
        selectedInSuspends();
        nothingSelectedInTraps();
        selectedBeforeAnewInLoops();
        ended();
        staysWithoutReaction();
        CHECK.end();
    }

    /** One instant with a reaction: the signals 4 to 15 that are present, and the pauses selected then. */
    private static void step(ReactionDesk desk, int inputs, int answer, int emitted, int selection) {
        CHECK.same("instant(" + inputs + ")", desk.instant(inputs), answer);
        CHECK.same("signals", Told.signals(desk, 1), inputs | emitted);
        CHECK.same("unknown signals", Told.signals(desk, 2), 0);
        CHECK.same("selected", Told.selection(desk), selection);
    }

    /** One instant without a reaction: the signals 4 to 15 that are present, and those that are unknown. */
    private static void none(ReactionDesk desk, int inputs, int emitted, int unknown) {
        int selection = Told.selection(desk);
        CHECK.same("instant(" + inputs + ")", desk.instant(inputs), 2);
        CHECK.same("signals", Told.signals(desk, 1), inputs | emitted);
        CHECK.same("unknown signals", Told.signals(desk, 2), unknown);
        CHECK.same("selected", Told.selection(desk), selection);
        CHECK.same("it goes", desk.count(7), 1);
    }

    /** A program that reacts in its first instant without inputs, and ends. */
    private static void ends(String words, int emitted) {
        step(Told.going(words), 0, 1, emitted, 0);
    }

    private static void hasNone(String words, int emitted, int unknown) {
        none(Told.going(words), 0, emitted, unknown);
    }

    private static void unknownTests() {
        CHECK.sentence("a test of one that is unknown is unknown");
        hasNone("present 4 (emit 4) nothing", 0, 0x10);
        hasNone("present not 4 (emit 4) nothing", 0, 0x10);
        hasNone("present 4 nothing (emit 4)", 0, 0x10);
        hasNone("present not 4 nothing (emit 4)", 0, 0x10);
        hasNone("present 15 (emit 15) nothing", 0, 0x8000);
        hasNone("present 4 (emit 4) (emit 4)", 0, 0x10);
    }

    private static void startsThenResumes() {
        CHECK.sentence("The whole program STARTS in the first instant, later it RESUMES");
        ReactionDesk desk = Told.going("seq (emit 4) seq pause (emit 5)");
        step(desk, 0, 0, 0x10, 1);
        step(desk, 0, 1, 0x20, 0);
        CHECK.sentence("statements that have selected pauses do");
        desk = Told.going("par (emit 4) (par (seq pause emit 5) (seq pause seq pause emit 6))");
        step(desk, 0, 0, 0x10, 3);
        step(desk, 0, 0, 0x20, 4);
        step(desk, 0, 1, 0x40, 0);
    }

    private static void notForSure() {
        CHECK.sentence("If it does not run FOR SURE, it must nothing.");
        // Whatever 4 is, 5 would be emitted: but that is a guess.
        hasNone("par (present 4 (emit 5) (emit 5)) (present 5 nothing (emit 4))", 0, 0x30);
        // Not for sure within what is not for sure, though the test in it is known.
        hasNone("par (present 4 (present 0 nothing (emit 5)) (emit 5)) (present 5 nothing (emit 4))", 0, 0x30);
        hasNone("par (present 4 (present not 0 (emit 5) nothing) (emit 5)) (present 5 nothing (emit 4))", 0, 0x30);
        hasNone("par (present 4 (seq nothing (emit 5)) (emit 5)) (present 5 nothing (emit 4))", 0, 0x30);
        hasNone("par (present 4 (par nothing (emit 5)) (emit 5)) (present 5 nothing (emit 4))", 0, 0x30);
        hasNone("par (present 4 (trap par (emit 5) (exit 0)) (emit 5)) (present 5 nothing (emit 4))", 0, 0x30);
        hasNone("par (present 4 (local 6 emit 5) (suspend 0 emit 5)) (present 5 nothing (emit 4))", 0, 0x30);
    }

    private static void startingPresent() {
        CHECK.sentence("PRESENT: if the test is known, that statement (for sure, if the present is)");
        ReactionDesk desk = Told.going("par (present 0 (emit 4) (emit 5)) (present 4 (emit 6) (emit 7))");
        step(desk, 1, 1, 0x50, 0);
        desk.start();
        step(desk, 0, 1, 0xA0, 0);
        CHECK.sentence("else both can, not for sure");
        hasNone("par (present 4 (emit 5) (emit 6)) (present 5 (emit 4) nothing)", 0, 0x70);
        hasNone("present 4 (seq pause emit 7) (seq (emit 4) (emit 8))", 0, 0x110);
    }

    private static void startingSequence() {
        CHECK.sentence("SEQUENCE: the second one starts for sure, if the first one must end with 0");
        ends("par (seq (present 4 (emit 5) nothing) (emit 6)) (par (emit 4) (present 6 (emit 7) (emit 8)))", 0xF0);
        CHECK.sentence("else, if it can, not for sure");
        hasNone("seq (present 4 nothing pause) (emit 4)", 0, 0x10);
        hasNone("seq (present 4 nothing nothing) (emit 4)", 0, 0x10);
        hasNone("par (seq (present 4 nothing nothing) (emit 5)) (present 5 (emit 4) (emit 6))", 0, 0x70);
        // The first one can't end with 0, so the second can't emit.
        step(Told.going("par (seq pause emit 4) (present 4 (emit 5) (emit 6))"), 0, 0, 0x40, 1);
        ends("trap par (seq (exit 0) (emit 4)) (present 4 (emit 5) (emit 6))", 0x40);
        ends("trap par (seq (present 4 (exit 0) (exit 0)) (emit 4)) nothing", 0);
        CHECK.sentence("then the codes of the second one are in place of 0");
        step(Told.going("seq (seq nothing pause) (emit 4)"), 0, 0, 0, 1);
        ends("seq (trap seq (seq (emit 5) (exit 0)) (emit 4)) (emit 6)", 0x60);
    }

    private static void startingParallel() {
        CHECK.sentence("PARALLEL: both; what they must and can emit together");
        ends("par (par (emit 4) (emit 5)) (par (emit 5) (emit 15))", 0x8030);
        ends("par (present 4 (emit 5) nothing) (par (present 5 (emit 6) nothing) (emit 4))", 0x70);
        ends("par (present 4 (emit 5) (emit 6)) (par (present 5 (emit 7) nothing) nothing)", 0x40);
        CHECK.sentence("the greater code, if both have one that must be");
        ends("seq (par nothing nothing) (emit 4)", 0x10);
        step(Told.going("seq (par nothing pause) (emit 4)"), 0, 0, 0, 1);
        step(Told.going("seq (par pause nothing) (emit 4)"), 0, 0, 0, 1);
        ends("seq (trap seq (par pause (exit 0)) (emit 4)) (emit 5)", 0x20);
        ends("trap seq (trap seq (par (exit 0) (exit 1)) (emit 4)) (emit 5)", 0);
        ends("trap seq (trap seq (par (exit 1) (exit 0)) (emit 4)) (emit 5)", 0);
        // The exit is there, but what the other one ends with is not known.
        hasNone("trap par (exit 0) (present 4 (emit 4) nothing)", 0, 0x10);
        hasNone("seq (trap par (exit 0) (present 4 nothing nothing)) (emit 4)", 0, 0x10);
        CHECK.sentence("the greater ones of all pairs of codes that can be");
        // With the exit beside it, it can't end with 0.
        ends("trap seq (par (present 4 nothing pause) (exit 0)) (emit 4)", 0);
        // An exit of the outer trap beside it leaves no way to what comes after the inner one.
        ends("trap seq (trap par (present 4 nothing (exit 0)) (exit 1)) (emit 4)", 0);
        hasNone("trap seq (trap par (present 4 nothing (exit 1)) (exit 0)) (emit 4)", 0, 0x10);
        hasNone("seq (par (present 4 nothing pause) nothing) (emit 4)", 0, 0x10);
        step(Told.going("seq (par (present 4 nothing pause) pause) (emit 4)"), 0, 0, 0, 3);
    }

    private static void startingSuspendAndLoop() {
        CHECK.sentence("SUSPEND, LOOP: their statement.");
        ends("suspend 4 emit 4", 0x10);
        ends("suspend not 4 emit 5", 0x20);
        step(Told.going("suspend 0 seq (emit 4) pause"), 1, 0, 0x10, 1);
        step(Told.going("loop seq (emit 4) pause"), 0, 0, 0x10, 1);
        ends("trap loop seq (emit 4) (exit 0)", 0x10);
        hasNone("loop seq (present 4 nothing pause) seq (emit 4) pause", 0, 0x10);
    }

    private static void startingTrap() {
        CHECK.sentence("TRAP: 0 in place of 2, 1 less for greater codes.");
        ends("seq (trap exit 0) (emit 4)", 0x10);
        ends("seq (trap nothing) (emit 4)", 0x10);
        step(Told.going("seq (trap pause) (emit 4)"), 0, 0, 0, 1);
        ends("seq (trap seq (trap exit 1) (emit 4)) (emit 5)", 0x20);
        ends("seq (trap seq (trap seq (trap seq (trap seq (trap exit 4) (emit 4)) (emit 5)) (emit 6)) (emit 7)) (emit 8)",
            0x100);
        ends("seq (trap seq (trap seq (trap seq (trap seq (trap exit 3) (emit 4)) (emit 5)) (emit 6)) (emit 7)) (emit 8)",
            0x180);
    }

    private static void locals() {
        CHECK.sentence("at first its signal is unknown within");
        hasNone("local 4 present 4 (emit 4) nothing", 0, 0);
        hasNone("local 4 present not 4 (emit 4) nothing", 0, 0);
        // The signal outside is present, but that does not make the one within known.
        hasNone("par (emit 4) (local 4 present 4 (emit 4) nothing)", 0x10, 0);
        hasNone("local 4 par (emit 4) (local 4 present 4 (emit 4) nothing)", 0, 0);
        CHECK.sentence("when its statement then must emit it (for sure), it is present");
        ends("local 4 par (emit 4) (present 4 (emit 5) (emit 6))", 0x20);
        ends("local 4 par (present 4 (emit 5) (emit 6)) (emit 4)", 0x20);
        CHECK.sentence("when it can't, it is absent");
        ends("local 4 present 4 (emit 5) (emit 6)", 0x40);
        ends("local 4 par (seq (trap exit 0) nothing) (present 4 (emit 5) (emit 6))", 0x40);
        step(Told.going("local 4 par (seq pause emit 4) (present 4 (emit 5) (emit 6))"), 0, 0, 0x40, 1);
    }

    private static void localsAskedAnew() {
        CHECK.sentence("what it does is asked anew then");
        ends("local 4 local 5 par (emit 4) (par (present 4 (emit 5) nothing) (present 5 (emit 6) (emit 7)))", 0x40);
        ends("local 5 local 4 par (emit 4) (par (present 4 (emit 5) nothing) (present 5 (emit 6) (emit 7)))", 0x40);
        ends("par (local 4 par (emit 4) (present 4 (emit 5) nothing)) (present 5 (emit 6) (emit 7))", 0x60);
        ends("par (present 5 (emit 6) (emit 7)) (local 4 present 4 (emit 5) nothing)", 0x80);
        // The local waits for a signal that the rest of the program gives.
        ends("par (local 4 par (present 5 (emit 4) nothing) (present 4 (emit 6) (emit 7))) (emit 5)", 0x60);
        ends("seq (local 4 par (emit 4) (present 4 nothing pause)) (emit 5)", 0x20);
    }

    private static void localsNotForSure() {
        CHECK.sentence("no local that runs for sure, is unknown");
        ReactionDesk desk = Told.going("present 0 (local 4 present 4 (emit 4) nothing) (emit 5)");
        none(desk, 1, 0, 0);
        step(desk, 0, 1, 0x20, 0);
        // At first the local does not run for sure, and can't be present; then it does.
        ends("par (present 5 (local 4 par (emit 4) (present 4 (emit 6) (emit 7))) nothing) (emit 5)", 0x60);
        // It is unknown only so long as it is not for sure that it runs; in the end it does not run.
        ends("par (present 5 (local 4 present 4 (emit 4) nothing) (emit 6)) (nothing)", 0x40);
        hasNone("par (present 5 (local 4 present 4 (emit 4) nothing) (emit 6)) (emit 5)", 0x20, 0);
    }

    private static void resumingPause() {
        CHECK.sentence("a selected PAUSE ends with 0");
        ReactionDesk desk = Told.going("pause");
        step(desk, 0, 0, 0, 1);
        step(desk, 0, 1, 0, 0);
    }

    private static void resumingSequence() {
        CHECK.sentence("SEQUENCE: if pauses of the first one are selected, that resumes, and the second one starts as above");
        ReactionDesk desk = Told.going("seq (seq pause present 0 nothing pause) (seq (emit 4) pause)");
        step(desk, 0, 0, 0, 1);
        step(desk, 0, 0, 0, 2);
        step(desk, 0, 0, 0x10, 4);
        desk.start();
        step(desk, 0, 0, 0, 1);
        step(desk, 1, 0, 0x10, 4);
        desk = Told.going("seq (seq pause present 4 nothing pause) (emit 4)");
        step(desk, 0, 0, 0, 1);
        none(desk, 0, 0, 0x10);
        CHECK.sentence("else the second one resumes");
        desk = Told.going("seq (emit 4) (seq pause emit 5)");
        step(desk, 0, 0, 0x10, 1);
        step(desk, 0, 1, 0x20, 0);
    }

    private static void resumingPresent() {
        CHECK.sentence("PRESENT: the one that has selected pauses resumes.");
        for (int first = 0; first <= 1; first++) {
            for (int later = 0; later <= 1; later++) {
                ReactionDesk desk = Told.going("present 0 (seq pause emit 4) (seq pause emit 5)");
                step(desk, first, 0, 0, first == 1 ? 1 : 2);
                step(desk, later, 1, first == 1 ? 0x10 : 0x20, 0);
            }
        }
        // The test is asked no more: not even whether it is known.
        ReactionDesk desk = Told.going("present 4 (nothing) (seq pause emit 4)");
        step(desk, 0, 0, 0, 1);
        step(desk, 0, 1, 0x10, 0);
    }

    private static void resumingParallel() {
        CHECK.sentence("PARALLEL: those that have selected pauses; one without has ended (0).");
        ReactionDesk desk = Told.going("seq (par (seq (emit 4) pause) (seq (emit 5) seq pause pause)) (emit 6)");
        step(desk, 0, 0, 0x30, 3);
        step(desk, 0, 0, 0, 4);
        step(desk, 0, 1, 0x40, 0);
        desk = Told.going("seq (par (seq (emit 4) seq pause pause) (seq (emit 5) pause)) (emit 6)");
        step(desk, 0, 0, 0x30, 5);
        step(desk, 0, 0, 0, 2);
        step(desk, 0, 1, 0x40, 0);
    }

    private static void resumingSuspend() {
        CHECK.sentence("SUSPEND: if the test is true, all in it stays as it is (code 1)");
        ReactionDesk desk = Told.going("seq (suspend 0 par (seq pause emit 4) (seq pause seq (emit 5) pause)) (emit 6)");
        step(desk, 1, 0, 0, 3);
        step(desk, 1, 0, 0, 3);
        CHECK.sentence("if it is false, its statement resumes");
        step(desk, 0, 0, 0x30, 4);
        step(desk, 1, 0, 0, 4);
        step(desk, 0, 1, 0x40, 0);
        // Suspends within one another: the outer test comes first.
        desk = Told.going("suspend 0 par (suspend 1 seq pause emit 4) (seq pause seq (emit 5) pause)");
        step(desk, 3, 0, 0, 3);
        step(desk, 3, 0, 0, 3);
        step(desk, 2, 0, 0x20, 5);
        step(desk, 1, 0, 0, 5);
        step(desk, 0, 1, 0x10, 0);
    }

    private static void resumingSuspendUnknown() {
        CHECK.sentence("if it is unknown, it can be both, not for sure");
        ReactionDesk desk = Told.going("suspend 4 seq pause emit 4");
        step(desk, 0, 0, 0, 1);
        none(desk, 0, 0, 0x10);
        desk = Told.going("suspend not 4 seq pause emit 4");
        step(desk, 0, 0, 0, 1);
        none(desk, 0, 0, 0x10);
        // 4 rests on 5, and 5 on whether it stays.
        desk = Told.going("par (suspend 4 seq pause emit 5) (seq pause present 5 (emit 4) nothing)");
        step(desk, 0, 0, 0, 3);
        none(desk, 0, 0, 0x30);
        // Whether it stays or comes to its next pause, the exit beside it would count: but that is a guess.
        desk = Told.going("seq (trap par (suspend 5 seq pause pause) (seq pause exit 0)) (emit 5)");
        step(desk, 0, 0, 0, 5);
        none(desk, 0, 0, 0x20);
        // If it stays, the inner exit counts and 4 can be emitted; if it resumes, it can't.
        desk = Told.going("trap seq (trap par (suspend 4 seq pause exit 1) (seq pause exit 0)) (emit 4)");
        step(desk, 0, 0, 0, 3);
        none(desk, 0, 0, 0x10);
        desk = Told.going("seq (suspend 4 pause) (emit 4)");
        step(desk, 0, 0, 0, 1);
        none(desk, 0, 0, 0x10);
        desk = Told.going("seq (suspend 4 pause) (emit 5)");
        step(desk, 0, 0, 0, 1);
        step(desk, 0, 1, 0x20, 0);
    }

    private static void resumingNotForSure() {
        CHECK.sentence("it can be both, not for sure");
        // Each of them emits 5 if it resumes, and 4 rests on 5.
        String[] resuming = {
            "seq pause emit 5", "seq nothing (seq pause emit 5)", "seq (seq pause emit 5) nothing",
            "present 0 nothing (seq pause emit 5)", "present not 0 (seq pause emit 5) nothing",
            "par (seq pause emit 5) nothing", "par nothing (seq pause emit 5)", "suspend 0 seq pause emit 5",
            "loop seq pause emit 5", "trap seq pause emit 5", "local 6 seq pause emit 5"
        };
        for (String words : resuming) {
            ReactionDesk desk = Told.going("par (suspend 4 " + words + ") (seq pause present 5 (emit 4) nothing)");
            step(desk, 0, 0, 0, 3);
            none(desk, 0, 0, 0x30);
        }
        // What stays within what is not for sure has no code that must be, so the exit beside it has none.
        ReactionDesk desk = Told.going("seq (trap par (suspend 4 suspend 0 pause) (seq pause exit 0)) (emit 4)");
        step(desk, 0, 0, 0, 3);
        none(desk, 1, 0, 0x10);
    }

    private static void loopAnewOnUnknown() {
        CHECK.sentence("when this ends with 0, it starts anew");
        ReactionDesk desk = Told.going("loop seq (present 0 nothing (present 4 nothing (emit 4))) pause");
        step(desk, 1, 0, 0, 1);
        none(desk, 0, 0, 0x10);
        step(desk, 1, 0, 0, 1);
        desk = Told.going("loop seq (present 0 nothing (present 4 (emit 4) nothing)) pause");
        step(desk, 1, 0, 0, 1);
        none(desk, 0, 0, 0x10);
    }

    private static void resumingLoop() {
        CHECK.sentence("LOOP: its statement resumes; when this ends with 0, it starts anew");
        ReactionDesk desk = Told.going("loop seq (emit 4) seq pause (emit 5)");
        step(desk, 0, 0, 0x10, 1);
        step(desk, 0, 0, 0x30, 1);
        step(desk, 0, 0, 0x30, 1);
        desk = Told.going("loop seq (emit 4) seq pause (seq pause emit 5)");
        step(desk, 0, 0, 0x10, 1);
        step(desk, 0, 0, 0, 2);
        step(desk, 0, 0, 0x30, 1);
        desk = Told.going("seq (trap loop seq (emit 4) seq pause (present 0 (exit 0) nothing)) (emit 5)");
        step(desk, 1, 0, 0x10, 1);
        step(desk, 0, 0, 0x10, 1);
        step(desk, 1, 1, 0x20, 0);
        CHECK.sentence("(for sure or not, as in a sequence");
        desk = Told.going("loop seq (emit 4) seq pause (present 4 nothing pause)");
        step(desk, 0, 0, 0x10, 1);
        none(desk, 0, 0, 0x10);
        desk = Told.going("par (loop seq (emit 4) seq pause (present 5 nothing pause)) (seq pause emit 5)");
        step(desk, 0, 0, 0x10, 5);
        step(desk, 0, 0, 0x30, 1);
    }

    private static void localsInLoops() {
        CHECK.sentence("locals in it have a status of their own then");
        ReactionDesk desk = Told.going("loop local 4 par (seq pause emit 4) (present 4 (emit 5) (emit 6))");
        step(desk, 0, 0, 0x40, 1);
        step(desk, 0, 0, 0x40, 1);
        desk = Told.going("loop local 4 seq (present 4 (emit 5) (emit 6)) seq pause (par (emit 4) (present 4 (emit 7) nothing))");
        step(desk, 0, 0, 0x40, 1);
        step(desk, 0, 0, 0xC0, 1);
        step(desk, 0, 0, 0xC0, 1);
        desk = Told.going("loop local 4 seq (par (emit 4) (present 4 (emit 5) (emit 6))) seq pause (present 4 (emit 7) (emit 8))");
        step(desk, 0, 0, 0x20, 1);
        step(desk, 0, 0, 0x120, 1);
        // The new one is unknown, though the old one was present.
        desk = Told.going("loop local 4 par (present 0 (present 4 (emit 4) nothing) nothing) (seq pause emit 4)");
        step(desk, 0, 0, 0, 1);
        none(desk, 1, 0, 0);
        step(desk, 0, 0, 0, 1);
    }

    private static void resumingTrapAndLocal() {
        CHECK.sentence("TRAP, LOCAL as above.");
        ReactionDesk desk = Told.going("seq (trap seq (trap seq pause (exit 1)) (emit 4)) (emit 5)");
        step(desk, 0, 0, 0, 1);
        step(desk, 0, 1, 0x20, 0);
        desk = Told.going("seq (trap seq (trap seq pause (exit 0)) (emit 4)) (emit 5)");
        step(desk, 0, 0, 0, 1);
        step(desk, 0, 1, 0x30, 0);
        desk = Told.going("seq (trap pause) (emit 5)");
        step(desk, 0, 0, 0, 1);
        step(desk, 0, 1, 0x20, 0);
        desk = Told.going("local 4 par (seq pause emit 4) (seq pause present 4 (emit 5) (emit 6))");
        step(desk, 0, 0, 0, 3);
        step(desk, 0, 1, 0x20, 0);
        desk = Told.going("local 4 seq (emit 4) seq pause (present 4 (emit 5) (emit 6))");
        step(desk, 0, 0, 0, 1);
        step(desk, 0, 1, 0x40, 0);
        desk = Told.going("local 4 seq pause (present 4 (emit 4) nothing)");
        step(desk, 0, 0, 0, 1);
        none(desk, 0, 0, 0);
    }

    private static void foundLikeLocals() {
        CHECK.sentence("unknown at first, then what the whole program must, and can't, emit");
        StringBuilder chain = new StringBuilder();
        for (int s = 4; s < 15; s++) {
            chain.append("par (present ").append(s + 1).append(" (emit ").append(s).append(") nothing) ");
        }
        ends(chain + "(emit 15)", 0xFFF0);
        ends(chain + "(nothing)", 0);
        // 4 must be emitted, 5 can't, and 6 rests on both; 7 is a guess of its own.
        hasNone("par (emit 4) (par (present 4 (present 5 nothing (emit 6)) nothing) (present 7 (emit 7) nothing))",
            0x50, 0x80);
        // A signal that is present earlier is unknown again in the next instant.
        ReactionDesk desk = Told.going("seq (emit 4) seq pause (present 4 (emit 4) nothing)");
        step(desk, 0, 0, 0x10, 1);
        none(desk, 0, 0, 0x10);
    }

    private static void noReaction() {
        CHECK.sentence("and the whole program has a code that it must end with");
        hasNone("trap trap local 4 present 4 (seq (emit 4) (exit 0)) (exit 1)", 0, 0);
        hasNone("local 4 present 4 (seq (emit 4) pause) nothing", 0, 0);
        CHECK.sentence("A reaction there is if in the end none of these");
        hasNone("par (present 4 (emit 5) nothing) (present 5 (emit 4) nothing)", 0, 0x30);
        hasNone("par (present 4 nothing (emit 5)) (present 5 nothing (emit 4))", 0, 0x30);
        // Two that rest on each other, but one way is cut by an input.
        ReactionDesk desk = Told.going(
            "par (present 0 (present 4 (emit 5) nothing) (emit 5)) (present 0 (emit 4) (present 5 (emit 4) nothing))");
        step(desk, 0, 1, 0x30, 0);
        desk.start();
        step(desk, 1, 1, 0x30, 0);
    }

    private static void selectedAtPauses() {
        CHECK.sentence("SELECTED then are the pauses at which a started one ended with 1");
        ReactionDesk desk = Told.going("par (present 0 pause pause) (seq pause pause)");
        step(desk, 1, 0, 0, 5);
        step(desk, 0, 0, 0, 8);
        step(desk, 0, 1, 0, 0);
        desk.start();
        step(desk, 0, 0, 0, 6);
        // While a test is unknown both pauses can be come to; only one is in the end.
        desk = Told.going("par (present 4 pause pause) (emit 4)");
        step(desk, 0, 0, 0x10, 1);
        desk = Told.going("par (present 4 pause pause) (nothing)");
        step(desk, 0, 0, 0, 2);
        desk = Told.going("local 4 present 4 pause pause");
        step(desk, 0, 0, 0, 2);
        desk = Told.going("par (emit 5) (local 4 par (present 5 (emit 4) nothing) (present 4 pause pause))");
        step(desk, 0, 0, 0x20, 1);
    }

    private static void selectedInSuspends() {
        CHECK.sentence("and those that stayed in a suspend");
        ReactionDesk desk = Told.going("par (suspend 0 seq pause pause) (seq pause pause)");
        step(desk, 1, 0, 0, 5);
        step(desk, 1, 0, 0, 9);
        step(desk, 0, 0, 0, 2);
        step(desk, 1, 0, 0, 2);
        step(desk, 0, 1, 0, 0);
    }

    private static void nothingSelectedInTraps() {
        CHECK.sentence("but of all that was in a trap to which an exit came nothing is selected");
        ReactionDesk desk = Told.going("par (trap par pause (exit 0)) pause");
        step(desk, 0, 0, 0, 2);
        desk = Told.going("par (trap par (exit 0) pause) pause");
        step(desk, 0, 0, 0, 2);
        // The exit passes the inner trap, and what is in both is left.
        desk = Told.going("par (trap par pause (trap par pause (exit 1))) pause");
        step(desk, 0, 0, 0, 4);
        desk = Told.going("par (trap par pause (trap par pause (exit 0))) pause");
        step(desk, 0, 0, 0, 5);
        // What stays in a suspend is left too, and so is what resumed and came to its next pause.
        desk = Told.going("par (trap par (suspend 0 pause) (par (seq pause pause) (seq pause exit 0))) (loop pause)");
        step(desk, 1, 0, 0, 0x1B);
        step(desk, 1, 0, 0, 0x10);
        // A trap that ends, or pauses, without an exit leaves all as it is.
        desk = Told.going("trap par (seq pause pause) pause");
        step(desk, 0, 0, 0, 5);
        step(desk, 0, 0, 0, 2);
    }

    private static void selectedBeforeAnewInLoops() {
        CHECK.sentence("so far as it ran or stayed in the instant before it starts anew in a loop");
        ReactionDesk desk = Told.going("loop trap par (seq pause pause) (seq pause exit 0)");
        step(desk, 0, 0, 0, 5);
        step(desk, 0, 0, 0, 5);
        desk = Told.going("loop trap par (suspend 0 seq pause pause) (seq pause seq (present 1 pause nothing) (exit 0))");
        step(desk, 0, 0, 0, 5);
        step(desk, 3, 0, 0, 9);
        step(desk, 1, 0, 0, 5);
        // The exit comes after the inner loop has started anew: nothing of that is left either.
        desk = Told.going("seq (trap par (loop pause) (seq pause exit 0)) pause");
        step(desk, 0, 0, 0, 3);
        step(desk, 0, 0, 0, 4);
        // The trap is left and the loop comes to other pauses in it than before.
        desk = Told.going("loop trap present 0 (par pause (loop seq pause (present 1 (exit 0) nothing))) pause");
        step(desk, 1, 0, 0, 3);
        step(desk, 1, 0, 0, 2);
        step(desk, 2, 0, 0, 4);
        step(desk, 1, 0, 0, 3);
        step(desk, 3, 0, 0, 3);
    }

    private static void ended() {
        CHECK.sentence("With code 0 or an exit of the program it has ENDED (exits reach a trap always).");
        ends("nothing", 0);
        ends("trap exit 0", 0);
        ends("trap trap trap trap trap exit 4", 0);
        ReactionDesk desk = Told.going("trap par pause (seq pause exit 0)");
        step(desk, 0, 0, 0, 3);
        step(desk, 0, 1, 0, 0);
        CHECK.same("it has ended", desk.count(7), 2);
        CHECK.same("selected", desk.count(6), 0);
    }

    private static void staysWithoutReaction() {
        CHECK.sentence("Without a reaction all stays as it is.");
        String guess = "present 0 (present 4 (emit 4) nothing) nothing";
        ReactionDesk desk = Told.going("seq (" + guess + ") seq (emit 5) loop seq pause (" + guess + ")");
        none(desk, 1, 0, 0x30);
        CHECK.same("reactions", desk.count(5), 0);
        none(desk, 3, 0, 0x30);
        step(desk, 0, 0, 0x20, 1);
        CHECK.same("reactions", desk.count(5), 1);
        none(desk, 1, 0, 0x10);
        none(desk, 9, 0, 0x10);
        CHECK.same("reactions", desk.count(5), 1);
        step(desk, 0, 0, 0, 1);
        CHECK.same("reactions", desk.count(5), 2);
    }
}
