/** The promises, sentence by sentence: what each call answers and throws at its edges, and in which state. */
public final class CallsTest {
    private static final Check CHECK = new Check("CallsTest");
    private static final Class<IllegalStateException> STATE = IllegalStateException.class;
    private static final Class<IllegalArgumentException> ARGUMENT = IllegalArgumentException.class;
    private static final Class<IndexOutOfBoundsException> INDEX = IndexOutOfBoundsException.class;
    private static final int NONE = ReactionDesk.NONE;
    private static final int MIN = Integer.MIN_VALUE;
    private static final int MAX = Integer.MAX_VALUE;
    private static final int[] NO_SIGNALS = {-1, -2, -16, 16, 17, 20, 31, 32, 36, 256, MIN, MIN + 4, MAX};
    /** With input 0 it has no reaction, with input 1 it ends; a pause more behind each. */
    private static final String WAITING = "seq (emit 5) trap loop seq pause "
        + "(present 0 (present 4 (emit 4) nothing) (present 1 (exit 0) (emit 6)))";

    public static void main(String[] args) {
        callsOfAnObject();
        newObject();
        putAnswersDue();
        putInWhole();
        putOrder();
        clearAnswersStatements();
        clearForgets();
        instantAnswers();
        instantWithoutProgram();
        instantOnWrongInputs();
        statusOfSignals();
        statusBefore();
        statusOfNoSignal();
        selectedPauses();
        selectedOfNoPause();
        reactsOnInputs();
        reactsWithoutProgram();
        emitsOnInputs();
        emitsWithoutProgram();
        emitsOfNoSignal();
        countOfStatements();
        countOfReactions();
        countOfPhases();
        countOfOthers();
        CHECK.end();
    }

    /** Desks on which no program goes: none told, a part, whole, refused, ended, cleared. */
    private static ReactionDesk[] idle() {
        ReactionDesk refused = Told.told("loop nothing");
        refused.start();
        ReactionDesk ended = Told.going("emit 4");
        ended.instant(3);
        ReactionDesk cleared = Told.going("pause");
        cleared.instant(3);
        cleared.clear();
        return new ReactionDesk[] {
            new ReactionDesk(), Told.told("seq pause"), Told.told("pause"), refused, ended, cleared
        };
    }

    private static void callsOfAnObject() {
        CHECK.sentence("An object is used for at most 512 calls after it has been made");
        ReactionDesk desk = Told.going("loop local 4 seq (present 0 (emit 4) (emit 5)) seq (present 4 (emit 6) nothing) pause");
        // 11 statements and their start; telling them asks what is due.
        int made = 13;
        for (int i = 0; made < 511; i++) {
            CHECK.same("call " + (made + 1), desk.instant(i & 15), 0);
            CHECK.same("call " + (made + 2), desk.emits(6), 0xAAAA);
            made += 2;
        }
        CHECK.same("call 512", desk.count(5), 249);
    }

    private static void newObject() {
        CHECK.sentence("ReactionDesk(): No program.");
        ReactionDesk desk = new ReactionDesk();
        int[] due = {0, 1, 0, 0, 0, 0, 0, 0};
        for (int what = 0; what < due.length; what++) {
            CHECK.same("count(" + what + ")", desk.count(what), due[what]);
        }
        CHECK.same("absent signals", Told.signals(desk, 0), 0xFFFF);
        CHECK.same("clear", desk.clear(), 0);
        CHECK.same("clear again", desk.clear(), 0);
        CHECK.same("a program at once", desk.put(0, 0), 0);
        ReactionDesk other = new ReactionDesk();
        CHECK.same("another object has its own", other.count(0), 0);
    }

    private static void putAnswersDue() {
        CHECK.sentence("The next statement: how many are still due (0: the program is whole)");
        ReactionDesk desk = new ReactionDesk();
        CHECK.same("sequence", desk.put(Told.SEQUENCE, 0), 2);
        CHECK.same("present", desk.put(Told.PRESENT, 0), 3);
        CHECK.same("parallel", desk.put(Told.PARALLEL, 0), 4);
        CHECK.same("loop", desk.put(Told.LOOP, 0), 4);
        CHECK.same("pause", desk.put(Told.PAUSE, 0), 3);
        CHECK.same("nothing", desk.put(Told.NOTHING, 0), 2);
        CHECK.same("emit", desk.put(Told.EMIT, 15), 1);
        CHECK.same("suspend", desk.put(Told.SUSPEND, -16), 1);
        CHECK.same("local", desk.put(Told.LOCAL, 4), 1);
        CHECK.same("trap", desk.put(Told.TRAP, 0), 1);
        CHECK.same("exit", desk.put(Told.EXIT, 0), 0);
        CHECK.same("due", desk.count(1), 0);
    }

    private static void putInWhole() {
        CHECK.sentence("IllegalStateException when it is whole");
        ReactionDesk going = Told.going("pause");
        ReactionDesk ended = Told.going("nothing");
        ended.instant(0);
        for (ReactionDesk desk : new ReactionDesk[] {Told.told("nothing"), Told.told("loop nothing"), going, ended}) {
            CHECK.refuses("a right one", STATE, desk, () -> desk.put(0, 0));
            CHECK.refuses("a wrong sort", STATE, desk, () -> desk.put(11, 0));
            CHECK.refuses("a wrong sort", STATE, desk, () -> desk.put(-1, 0));
            CHECK.refuses("a wrong x", STATE, desk, () -> desk.put(Told.PAUSE, 1));
        }
    }

    private static void putOrder() {
        CHECK.sentence("else IllegalArgumentException when sort is not 0 .. 10, or x not as said there");
        ReactionDesk desk = Told.told("seq pause");
        CHECK.refuses("a wrong sort", ARGUMENT, desk, () -> desk.put(11, 0));
        CHECK.refuses("a wrong x", ARGUMENT, desk, () -> desk.put(Told.EMIT, 3));
        CHECK.same("the right one after them", desk.put(Told.EMIT, 4), 0);
        CHECK.same("statements", desk.count(0), 3);
        CHECK.same("weights", desk.count(4), 4);
    }

    private static void clearAnswersStatements() {
        CHECK.sentence("clear: how many statements there were");
        CHECK.same("none", new ReactionDesk().clear(), 0);
        CHECK.same("one, whole", Told.told("nothing").clear(), 1);
        CHECK.same("a part", Told.told("par seq nothing").clear(), 3);
        CHECK.same("refused", Told.told("loop nothing").clear(), 2);
        CHECK.same("going", Told.going("seq pause nothing").clear(), 3);
        ReactionDesk ended = Told.going("par nothing nothing");
        ended.instant(0);
        CHECK.same("ended", ended.clear(), 3);
        CHECK.same("cleared", ended.clear(), 0);
    }

    private static void clearForgets() {
        CHECK.sentence("clear: No program");
        String fresh = Told.seen(new ReactionDesk());
        ReactionDesk part = Told.told("loop trap par pause");
        part.clear();
        CHECK.same("a part", Told.seen(part), fresh);
        CHECK.refuses("the trap is gone", ARGUMENT, part, () -> part.put(Told.EXIT, 0));
        CHECK.same("whole at once", part.put(Told.PAUSE, 0), 0);
        CHECK.same("of weight 1", part.count(4), 1);
        CHECK.same("start", part.start(), 0);
        CHECK.same("instant", part.instant(0), 0);
        ReactionDesk going = Told.going("loop seq (emit 4) pause");
        going.instant(15);
        going.clear();
        CHECK.same("going", Told.seen(going), fresh);
        Told.tell(going, "seq (emit 5) pause");
        CHECK.same("not selected before the start", going.selected(0), false);
        CHECK.fails("the new one does not go", STATE, () -> going.instant(0));
        CHECK.same("start", going.start(), 0);
        CHECK.same("it starts", going.instant(0), 0);
        CHECK.same("emitted", Told.signals(going, 1), 0x20);
        // No statement of the new program has a pause of the old one.
        ReactionDesk pauses = Told.told("seq pause pause");
        pauses.clear();
        Told.tell(pauses, "seq nothing seq pause (emit 4)");
        pauses.start();
        CHECK.same("at the new pause", pauses.instant(0), 0);
        CHECK.same("behind it", pauses.instant(0), 1);
        CHECK.same("emitted", Told.signals(pauses, 1), 0x10);
        ReactionDesk ended = Told.going("emit 4");
        ended.instant(15);
        ended.clear();
        CHECK.same("ended", Told.seen(ended), fresh);
        ReactionDesk none = Told.going("present 4 (emit 4) nothing");
        none.instant(1);
        none.clear();
        CHECK.same("without a reaction", Told.seen(none), fresh);
    }

    private static void instantAnswers() {
        CHECK.sentence("0 it reacts and goes on, 1 it reacts and has ended, 2 there is no reaction");
        ReactionDesk desk = Told.going(WAITING);
        CHECK.same("goes on", desk.instant(0), 0);
        CHECK.same("goes on", desk.instant(12), 0);
        CHECK.same("no reaction", desk.instant(1), 2);
        CHECK.same("no reaction", desk.instant(15), 2);
        CHECK.same("goes on", desk.instant(4), 0);
        CHECK.same("has ended", desk.instant(14), 1);
        CHECK.same("reactions", desk.count(5), 4);
    }

    private static void instantWithoutProgram() {
        CHECK.sentence("IllegalStateException when no program goes (none was started, or it has ended)");
        for (ReactionDesk desk : idle()) {
            CHECK.refuses("instant", STATE, desk, () -> desk.instant(0));
            CHECK.refuses("instant on wrong inputs", STATE, desk, () -> desk.instant(16));
            CHECK.refuses("instant on wrong inputs", STATE, desk, () -> desk.instant(-1));
        }
    }

    private static void instantOnWrongInputs() {
        CHECK.sentence("else IllegalArgumentException when inputs is not 0 .. 15");
        for (int inputs : new int[] {-1, -16, 16, 17, 31, 32, 256, 65536, MIN, MIN + 1, MAX}) {
            ReactionDesk desk = Told.going(WAITING);
            CHECK.refuses("instant(" + inputs + ")", ARGUMENT, desk, () -> desk.instant(inputs));
            desk.instant(0);
            CHECK.refuses("instant(" + inputs + ") later", ARGUMENT, desk, () -> desk.instant(inputs));
        }
        for (int inputs = 0; inputs <= 15; inputs++) {
            CHECK.same("instant(" + inputs + ")", Told.going("nothing").instant(inputs), 1);
        }
    }

    private static void statusOfSignals() {
        CHECK.sentence("Of signal s in the latest instant since the start: 1 present, 0 absent");
        ReactionDesk desk = Told.going(WAITING);
        desk.instant(9);
        CHECK.same("present", Told.signals(desk, 1), 0x29);
        CHECK.same("absent", Told.signals(desk, 0), 0xFFFF & ~0x29);
        desk.instant(4);
        CHECK.same("present later", Told.signals(desk, 1), 0x44);
        CHECK.same("absent later", Told.signals(desk, 0), 0xFFFF & ~0x44);
        CHECK.sentence("2 unknown (in one without a reaction)");
        desk.instant(11);
        CHECK.same("present without a reaction", Told.signals(desk, 1), 11);
        CHECK.same("unknown", Told.signals(desk, 2), 0x10);
        desk.instant(2);
        CHECK.same("present at the end", Told.signals(desk, 1), 2);
        CHECK.same("unknown at the end", Told.signals(desk, 2), 0);
        CHECK.fails("no instant after the end", STATE, () -> desk.instant(15));
        CHECK.same("present after the end", Told.signals(desk, 1), 2);
    }

    private static void statusBefore() {
        CHECK.sentence("0 before");
        for (ReactionDesk desk : new ReactionDesk[] {
            new ReactionDesk(), Told.told("seq emit 4"), Told.told("emit 4"), Told.going("emit 4")}) {
            CHECK.same("absent signals", Told.signals(desk, 0), 0xFFFF);
        }
        ReactionDesk anew = Told.going("par (emit 4) pause");
        anew.instant(15);
        CHECK.same("start anew", anew.start(), 0);
        CHECK.same("absent signals after a start anew", Told.signals(anew, 0), 0xFFFF);
        ReactionDesk none = Told.going("present 4 (emit 4) nothing");
        none.instant(15);
        CHECK.same("start after no reaction", none.start(), 0);
        CHECK.same("absent signals after no reaction", Told.signals(none, 0), 0xFFFF);
    }

    private static void statusOfNoSignal() {
        CHECK.sentence("status: IndexOutOfBoundsException when s is not 0 .. 15");
        for (int s : NO_SIGNALS) {
            ReactionDesk none = new ReactionDesk();
            CHECK.refuses("status(" + s + ")", INDEX, none, () -> none.status(s));
            ReactionDesk going = Told.going("par (emit 4) pause");
            going.instant(15);
            CHECK.refuses("status(" + s + ") of one that goes", INDEX, going, () -> going.status(s));
        }
        ReactionDesk desk = Told.going("par (emit 4) (emit 15)");
        desk.instant(9);
        CHECK.same("status(0)", desk.status(0), 1);
        CHECK.same("status(3)", desk.status(3), 1);
        CHECK.same("status(4)", desk.status(4), 1);
        CHECK.same("status(15)", desk.status(15), 1);
    }

    private static void selectedPauses() {
        CHECK.sentence("Whether pause k is selected.");
        ReactionDesk desk = Told.told("seq pause");
        CHECK.same("of a part", desk.selected(0), false);
        desk.put(Told.PAUSE, 0);
        CHECK.same("of a whole", Told.selection(desk), 0);
        desk.start();
        CHECK.same("before the first instant", Told.selection(desk), 0);
        desk.instant(0);
        CHECK.same("pause 0", desk.selected(0), true);
        CHECK.same("pause 1", desk.selected(1), false);
        desk.instant(0);
        CHECK.same("pause 0", desk.selected(0), false);
        CHECK.same("pause 1", desk.selected(1), true);
        desk.start();
        CHECK.same("after a start anew", Told.selection(desk), 0);
        desk.instant(0);
        desk.instant(0);
        desk.instant(0);
        CHECK.same("after the end", Told.selection(desk), 0);
    }

    private static void selectedOfNoPause() {
        CHECK.sentence("selected: IndexOutOfBoundsException when there is none");
        for (int k : new int[] {-1, -31, -32, 2, 3, 31, 32, 33, 34, 64, MIN, MIN + 1, MAX}) {
            ReactionDesk desk = Told.going("par pause pause");
            desk.instant(0);
            CHECK.refuses("selected(" + k + ")", INDEX, desk, () -> desk.selected(k));
        }
        ReactionDesk none = new ReactionDesk();
        CHECK.refuses("selected(0) of no program", INDEX, none, () -> none.selected(0));
        ReactionDesk without = Told.going("emit 4");
        CHECK.refuses("selected(0) without pauses", INDEX, without, () -> without.selected(0));
        ReactionDesk part = Told.told("par pause");
        CHECK.refuses("selected(1) before it is told", INDEX, part, () -> part.selected(1));
        ReactionDesk cleared = Told.going("pause");
        cleared.instant(0);
        cleared.clear();
        CHECK.refuses("selected(0) after clear", INDEX, cleared, () -> cleared.selected(0));
    }

    private static void reactsOnInputs() {
        CHECK.sentence("On how many of the 16 inputs the next instant would have a reaction.");
        CHECK.same("all", Told.going("nothing").reacts(), 16);
        CHECK.same("none", Told.going("present 4 (emit 4) nothing").reacts(), 0);
        for (int n = 0; n <= 15; n++) {
            ReactionDesk desk = Told.going(onlyOn(n, "present 4 (emit 4) nothing"));
            CHECK.same("all but " + n, desk.reacts(), 15);
        }
        ReactionDesk later = Told.going(WAITING);
        CHECK.same("the first instant", later.reacts(), 16);
        later.instant(0);
        String before = Told.seen(later);
        CHECK.same("the second", later.reacts(), 8);
        CHECK.same("seen after it", Told.seen(later), before);
        CHECK.same("no reaction", later.instant(1), 2);
        CHECK.same("the next one still", later.reacts(), 8);
        CHECK.same("goes on", later.instant(0), 0);
        later.start();
        CHECK.same("the first one anew", later.reacts(), 16);
    }

    /** A program that does what the words say on these inputs alone, and else nothing. */
    private static String onlyOn(int inputs, String words) {
        String all = words;
        for (int s = 0; s <= 3; s++) {
            all = "present " + ((inputs >> s & 1) == 1 ? "" : "not ") + s + " (" + all + ") nothing";
        }
        return all;
    }

    private static void reactsWithoutProgram() {
        CHECK.sentence("reacts: IllegalStateException when no program goes");
        for (ReactionDesk desk : idle()) {
            CHECK.refuses("reacts", STATE, desk, desk::reacts);
        }
    }

    private static void emitsOnInputs() {
        CHECK.sentence("The bits of the inputs on which the next instant would have a reaction that emits signal s.");
        for (int n = 0; n <= 15; n++) {
            CHECK.same("on " + n, Told.going(onlyOn(n, "emit 9")).emits(9), 1 << n);
        }
        for (int s = 4; s <= 15; s++) {
            ReactionDesk desk = Told.going("emit " + s);
            CHECK.same("signal " + s, desk.emits(s), 0xFFFF);
            CHECK.same("another signal", desk.emits(s == 4 ? 5 : 4), 0);
        }
        // Signal 5 is emitted, and known to be, where there is no reaction.
        ReactionDesk partly = Told.going("par (emit 5) (present 0 (present 4 (emit 4) nothing) nothing)");
        CHECK.same("where it reacts alone", partly.emits(5), 0x5555);
        CHECK.same("an unknown one", partly.emits(4), 0);
        CHECK.same("a local", Told.going("local 4 emit 4").emits(4), 0);
        ReactionDesk later = Told.going(WAITING);
        CHECK.same("in the first instant", later.emits(5), 0xFFFF);
        CHECK.same("not yet", later.emits(6), 0);
        later.instant(0);
        String before = Told.seen(later);
        CHECK.same("in the second", later.emits(6), 0x1111);
        CHECK.same("no more", later.emits(5), 0);
        CHECK.same("seen after it", Told.seen(later), before);
    }

    private static void emitsWithoutProgram() {
        CHECK.sentence("emits: IllegalStateException when no program goes");
        for (ReactionDesk desk : idle()) {
            CHECK.refuses("emits(4)", STATE, desk, () -> desk.emits(4));
            CHECK.refuses("emits(3)", STATE, desk, () -> desk.emits(3));
            CHECK.refuses("emits(16)", STATE, desk, () -> desk.emits(16));
        }
    }

    private static void emitsOfNoSignal() {
        CHECK.sentence("else IndexOutOfBoundsException when s is not 4 .. 15");
        for (int s : NO_SIGNALS) {
            ReactionDesk desk = Told.going("par (emit 4) pause");
            CHECK.refuses("emits(" + s + ")", INDEX, desk, () -> desk.emits(s));
        }
        for (int s = 0; s <= 3; s++) {
            int input = s;
            ReactionDesk desk = Told.going("par (emit 4) pause");
            CHECK.refuses("emits(" + s + ")", INDEX, desk, () -> desk.emits(input));
        }
        CHECK.same("emits(15)", Told.going("emit 15").emits(15), 0xFFFF);
        CHECK.same("emits(4)", Told.going("emit 4").emits(4), 0xFFFF);
    }

    private static void countOfStatements() {
        CHECK.sentence("what = 0 statements, 1 those still due (1 without any), 2 pauses, 3 loops, 4 the weights together");
        ReactionDesk desk = new ReactionDesk();
        counts(desk, 0, 1, 0, 0, 0);
        desk.put(Told.LOOP, 0);
        counts(desk, 1, 1, 0, 1, 1);
        desk.put(Told.SEQUENCE, 0);
        counts(desk, 2, 2, 0, 1, 3);
        desk.put(Told.PAUSE, 0);
        counts(desk, 3, 1, 1, 1, 5);
        desk.put(Told.LOOP, 0);
        counts(desk, 4, 1, 1, 2, 8);
        desk.put(Told.PAUSE, 0);
        counts(desk, 5, 0, 2, 2, 12);
        desk.start();
        desk.instant(0);
        counts(desk, 5, 0, 2, 2, 12);
        desk.clear();
        counts(desk, 0, 1, 0, 0, 0);
    }

    private static void counts(ReactionDesk desk, int... due) {
        for (int what = 0; what < due.length; what++) {
            CHECK.same("count(" + what + ")", desk.count(what), due[what]);
        }
    }

    private static void countOfReactions() {
        CHECK.sentence("5 instants with a reaction since the start, 6 selected pauses");
        ReactionDesk desk = Told.going("par pause (" + WAITING + ")");
        int[][] steps = {{0, 1, 2}, {1, 1, 2}, {1, 1, 2}, {0, 2, 1}, {0, 3, 1}, {5, 3, 1}, {2, 4, 0}};
        CHECK.same("reactions before", desk.count(5), 0);
        CHECK.same("selected before", desk.count(6), 0);
        for (int[] step : steps) {
            desk.instant(step[0]);
            CHECK.same("reactions", desk.count(5), step[1]);
            CHECK.same("selected", desk.count(6), step[2]);
        }
        desk.start();
        CHECK.same("reactions since the start anew", desk.count(5), 0);
        desk.instant(0);
        CHECK.same("reactions since the start anew", desk.count(5), 1);
        desk.start();
        CHECK.same("reactions", desk.count(5), 0);
        CHECK.same("selected", desk.count(6), 0);
    }

    private static void countOfPhases() {
        CHECK.sentence("7: 0 no program goes, 1 it goes, 2 it has ended");
        ReactionDesk desk = new ReactionDesk();
        CHECK.same("none", desk.count(7), 0);
        Told.tell(desk, "par pause");
        CHECK.same("a part", desk.count(7), 0);
        Told.tell(desk, "nothing");
        CHECK.same("whole", desk.count(7), 0);
        desk.start();
        CHECK.same("started", desk.count(7), 1);
        desk.instant(0);
        CHECK.same("goes on", desk.count(7), 1);
        desk.instant(0);
        CHECK.same("ended", desk.count(7), 2);
        desk.start();
        CHECK.same("started anew", desk.count(7), 1);
        desk.instant(0);
        desk.instant(0);
        desk.clear();
        CHECK.same("cleared after the end", desk.count(7), 0);
        ReactionDesk none = Told.going("present 4 (emit 4) nothing");
        none.instant(0);
        CHECK.same("without a reaction", none.count(7), 1);
    }

    private static void countOfOthers() {
        CHECK.sentence("NONE for others");
        CHECK.same("NONE", NONE, -1);
        ReactionDesk going = Told.going("loop pause");
        going.instant(0);
        for (int what : new int[] {-1, -2, -8, 8, 9, 15, 16, 256, 65536, MIN, MIN + 1, MAX}) {
            CHECK.same("count(" + what + ") without a program", new ReactionDesk().count(what), NONE);
            CHECK.same("count(" + what + ") while it goes", going.count(what), NONE);
        }
    }
}
