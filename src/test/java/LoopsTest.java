/** The document's words on loops and on start: which codes a statement may end with at its start. */
public final class LoopsTest {
    private static final Check CHECK = new Check("LoopsTest");
    private static final Class<IllegalStateException> STATE = IllegalStateException.class;

    public static void main(String[] args) {
        leaves();
        presents();
        suspendsAndLocals();
        loopsWithoutZero();
        sequences();
        parallels();
        traps();
        tests();
        firstLoop();
        refusedStart();
        startOfWhole();
        startWhileItGoes();
        CHECK.end();
    }

    private static void starts(String words, int due) {
        CHECK.same(words, Told.told(words).start(), due);
    }

    /** What the codes of a statement in five traps are, so far as loops can tell: 0, and the least exit. */
    private static void codes(String words, boolean zero, int leastExit) {
        starts("trap trap trap trap trap loop (" + words + ")", zero ? 1 : 0);
        for (int within = 1; within <= 5; within++) {
            // A pause in place of 0 leaves the exits alone, and each trap within turns one of them into 0.
            String loop = "loop " + "trap ".repeat(within) + "seq (" + words + ") pause";
            starts("trap ".repeat(5 - within) + loop, leastExit < within ? 1 : 0);
        }
    }

    private static final int NO_EXIT = 9;

    private static void leaves() {
        CHECK.sentence("nothing, emit {0}");
        codes("nothing", true, NO_EXIT);
        codes("emit 4", true, NO_EXIT);
        codes("emit 15", true, NO_EXIT);
        CHECK.sentence("pause {1}");
        codes("pause", false, NO_EXIT);
        CHECK.sentence("exit x {2 + x}");
        for (int x = 0; x <= 4; x++) {
            codes("exit " + x, false, x);
        }
    }

    private static void presents() {
        CHECK.sentence("present those of both");
        codes("present 0 pause pause", false, NO_EXIT);
        codes("present 0 nothing pause", true, NO_EXIT);
        codes("present 0 pause nothing", true, NO_EXIT);
        codes("present 0 (exit 3) (exit 2)", false, 2);
        codes("present 0 (exit 1) nothing", true, 1);
        codes("present 0 pause (exit 4)", false, 4);
    }

    private static void suspendsAndLocals() {
        CHECK.sentence("suspend, loop, local those of its own");
        for (String word : new String[] {"suspend 0 ", "suspend not 0 ", "local 4 "}) {
            codes(word + "nothing", true, NO_EXIT);
            codes(word + "pause", false, NO_EXIT);
            codes(word + "exit 2", false, 2);
            codes(word + "present 0 nothing (exit 1)", true, 1);
        }
        codes("loop pause", false, NO_EXIT);
        codes("loop exit 3", false, 3);
        codes("loop present 0 pause (exit 2)", false, 2);
    }

    private static void loopsWithoutZero() {
        CHECK.sentence("(of a loop without 0)");
        starts("loop loop nothing", 2);
        starts("loop loop loop emit 4", 3);
        starts("loop par nothing (loop nothing)", 2);
        starts("loop par (loop nothing) nothing", 2);
        starts("loop seq (loop nothing) nothing", 2);
        starts("loop seq nothing (loop nothing)", 2);
        starts("loop present 0 (loop nothing) pause", 2);
        starts("loop trap loop nothing", 2);
        starts("loop present 0 nothing (loop nothing)", 1);
        starts("loop trap loop present 0 (exit 0) nothing", 1);
    }

    private static void sequences() {
        CHECK.sentence("a sequence those of the first, but in place of 0, if that is one of them, those of the second");
        codes("seq nothing nothing", true, NO_EXIT);
        codes("seq nothing pause", false, NO_EXIT);
        codes("seq pause nothing", false, NO_EXIT);
        codes("seq pause (exit 0)", false, NO_EXIT);
        codes("seq (exit 1) nothing", false, 1);
        codes("seq (exit 1) (exit 0)", false, 1);
        codes("seq nothing (exit 2)", false, 2);
        codes("seq (present 0 nothing (exit 3)) (exit 1)", false, 1);
        codes("seq (present 0 nothing (exit 1)) (exit 3)", false, 1);
        codes("seq (present 0 nothing pause) nothing", true, NO_EXIT);
        codes("seq (present 0 nothing pause) pause", false, NO_EXIT);
        codes("seq (present 0 pause (exit 4)) nothing", false, 4);
    }

    private static void parallels() {
        CHECK.sentence("parallel: the greater ones of all pairs");
        codes("par nothing nothing", true, NO_EXIT);
        codes("par nothing pause", false, NO_EXIT);
        codes("par pause nothing", false, NO_EXIT);
        codes("par (exit 0) nothing", false, 0);
        codes("par pause (exit 0)", false, 0);
        codes("par (exit 1) (exit 0)", false, 1);
        codes("par (exit 0) (exit 1)", false, 1);
        codes("par (exit 2) (exit 4)", false, 4);
        codes("par (exit 4) (exit 4)", false, 4);
        codes("par (present 0 nothing (exit 0)) (exit 2)", false, 2);
        codes("par (present 0 nothing pause) (present 0 pause nothing)", true, NO_EXIT);
        codes("par (present 0 nothing (exit 1)) (present 0 (exit 3) nothing)", true, 1);
        codes("par (present 0 (exit 0) (exit 3)) (present 0 (exit 1) (exit 4))", false, 1);
        codes("par (present 0 (exit 0) (exit 4)) (exit 2)", false, 2);
    }

    private static void traps() {
        CHECK.sentence("trap: 0 in place of 2, 1 less for greater ones");
        starts("loop trap nothing", 1);
        starts("loop trap pause", 0);
        starts("loop trap exit 0", 1);
        starts("loop trap present 0 pause (exit 0)", 1);
        starts("loop trap par pause (exit 0)", 1);
        for (int traps = 1; traps <= 5; traps++) {
            for (int x = 0; x < traps; x++) {
                for (int outside = 0; outside <= traps; outside++) {
                    String words = "trap ".repeat(outside) + "loop " + "trap ".repeat(traps - outside) + "exit " + x;
                    starts(words, x < traps - outside ? 1 : 0);
                }
            }
        }
    }

    private static void tests() {
        CHECK.sentence("whatever tests say");
        starts("loop seq (emit 4) (present 4 pause nothing)", 1);
        starts("loop local 4 (present 4 nothing pause)", 1);
        starts("loop present 0 (present not 0 nothing pause) pause", 1);
    }

    private static void firstLoop() {
        CHECK.sentence("1 + the number of the first loop (counted from 0 in the order told) whose statement may end at once");
        starts("loop nothing", 1);
        starts("seq (loop pause) (loop nothing)", 2);
        starts("seq (loop nothing) (loop nothing)", 1);
        starts("par (loop pause) par (loop loop pause) (loop emit 4)", 4);
        starts("loop trap loop exit 0", 1);
        starts("loop seq pause loop seq nothing loop nothing", 3);
        starts("loop ".repeat(23) + "nothing", 23);
        starts("loop ".repeat(23) + "pause", 0);
        starts("present 0 (nothing) (loop emit 4)", 1);
    }

    private static void refusedStart() {
        CHECK.sentence("A loop whose statement may end with 0 so is refused.");
        ReactionDesk desk = Told.told("par (pause) (loop nothing)");
        String before = Told.seen(desk);
        CHECK.same("start", desk.start(), 1);
        CHECK.same("start again", desk.start(), 1);
        CHECK.same("seen after it", Told.seen(desk), before);
        CHECK.same("no program goes", desk.count(7), 0);
        CHECK.refuses("instant", STATE, desk, () -> desk.instant(0));
        CHECK.refuses("reacts", STATE, desk, desk::reacts);
        CHECK.refuses("emits", STATE, desk, () -> desk.emits(4));
        CHECK.refuses("put", STATE, desk, () -> desk.put(0, 0));
        CHECK.same("clear", desk.clear(), 4);
        Told.tell(desk, "par (pause) (loop pause)");
        CHECK.same("start of another", desk.start(), 0);
    }

    private static void startOfWhole() {
        CHECK.sentence("IllegalStateException when it is not whole.");
        ReactionDesk desk = new ReactionDesk();
        CHECK.refuses("start of none", STATE, desk, desk::start);
        for (String word : new String[] {"par", "seq", "loop", "pause", "nothing"}) {
            Told.tell(desk, word);
            CHECK.refuses("start after " + word, STATE, desk, desk::start);
        }
        CHECK.same("the last one due", desk.put(0, 0), 0);
        CHECK.same("start of the whole", desk.start(), 0);
        ReactionDesk other = Told.told("par loop nothing");
        CHECK.refuses("a bad loop that is not whole", STATE, other, other::start);
    }

    private static void startWhileItGoes() {
        CHECK.sentence("The program goes; it starts in the next instant: 0");
        ReactionDesk desk = Told.told("seq (emit 4) seq pause seq (emit 5) pause");
        CHECK.same("start", desk.start(), 0);
        String fresh = Told.seen(desk);
        CHECK.same("start again at once", desk.start(), 0);
        CHECK.same("seen", Told.seen(desk), fresh);
        CHECK.same("it starts", desk.instant(9), 0);
        CHECK.same("start while it goes", desk.start(), 0);
        CHECK.same("seen", Told.seen(desk), fresh);
        CHECK.same("it starts anew", desk.instant(0), 0);
        CHECK.same("emitted", Told.signals(desk, 1), 0x10);
        CHECK.same("it resumes", desk.instant(0), 0);
        CHECK.same("emitted", Told.signals(desk, 1), 0x20);
        CHECK.same("it ends", desk.instant(6), 1);
        CHECK.same("start when it has ended", desk.start(), 0);
        CHECK.same("seen", Told.seen(desk), fresh);
        CHECK.same("it starts anew", desk.instant(0), 0);
        CHECK.same("emitted", Told.signals(desk, 1), 0x10);
    }
}
