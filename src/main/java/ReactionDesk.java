/**
 * Programs of statements that run in instants, in each of which signals are found present or absent by what
 * the program must and what it can do, without a guess.
 */
public final class ReactionDesk {
    public static final int NONE = -1;

    private static final int NOTHING = 0;
    private static final int PAUSE = 1;
    private static final int EMIT = 2;
    private static final int EXIT = 3;
    private static final int PRESENT = 4;
    private static final int SUSPEND = 5;
    private static final int SEQUENCE = 6;
    private static final int PARALLEL = 7;
    private static final int LOOP = 8;
    private static final int TRAP = 9;
    private static final int LOCAL = 10;

    /** By sort: how many statements a statement has. */
    private static final int[] PARTS = {0, 0, 0, 0, 2, 1, 2, 2, 1, 1, 1};

    private static final int MOST_STATEMENTS = 120;
    private static final int MOST_PAUSES = 32;
    private static final int MOST_DEPTH = 24;
    private static final int MOST_TRAPS = 5;
    private static final int MOST_WEIGHT = 360;

    private static final int SIGNALS = 16;
    private static final int FIRST_EMITTED = 4;
    private static final int INPUT_SETS = 16;
    private static final int INPUT_BITS = 0x000F;
    private static final int EMITTED_BITS = 0xFFF0;
    private static final int SIGNAL_BITS = 0xFFFF;

    private static final int IS_ABSENT = 0;
    private static final int IS_PRESENT = 1;
    private static final int IS_UNKNOWN = 2;

    private static final int IDLE = 0;
    private static final int GOING = 1;
    private static final int ENDED = 2;

    private static final int GOES_ON = 0;
    private static final int HAS_ENDED = 1;
    private static final int NO_REACTION = 2;

    private final Program program;
    private final Reaction reaction;
    private int phase;
    private int reactions;
    private int latestKnown;
    private int latestPresent;

    public ReactionDesk() {
        program = new Program();
        reaction = new Reaction(program);
        phase = IDLE;
        latestKnown = SIGNAL_BITS;
    }

    public int put(int sort, int x) throws IllegalStateException, IllegalArgumentException {
        if (program.isWhole()) {
            throw new IllegalStateException("the program is whole");
        }
        if (!program.allows(sort, x)) {
            throw new IllegalArgumentException("no such statement here");
        }
        if (!program.hasRoomFor(sort)) {
            return NONE;
        }
        program.add(sort, x);
        return program.due;
    }

    public int start() throws IllegalStateException {
        if (!program.isWhole()) {
            throw new IllegalStateException("the program is not whole");
        }
        int refused = program.firstLoopAtOnce();
        if (refused != NONE) {
            return 1 + refused;
        }
        rewind(GOING);
        return 0;
    }

    public int clear() {
        rewind(IDLE);
        return program.forget();
    }

    public int instant(int inputs) throws IllegalStateException, IllegalArgumentException {
        if (phase != GOING) {
            throw new IllegalStateException("no program goes");
        }
        if (inputs < 0 || inputs >= INPUT_SETS) {
            throw new IllegalArgumentException("inputs are 0 to 15");
        }
        boolean reacted = reaction.isFound(inputs);
        latestKnown = reaction.known;
        latestPresent = reaction.present;
        if (!reacted) {
            return NO_REACTION;
        }
        reactions++;
        reaction.settle();
        if (reaction.ends()) {
            phase = ENDED;
            return HAS_ENDED;
        }
        return GOES_ON;
    }

    public int status(int s) throws IndexOutOfBoundsException {
        if (s < 0 || s >= SIGNALS) {
            throw new IndexOutOfBoundsException("signals are 0 to 15");
        }
        return statusIn(latestKnown, latestPresent, s);
    }

    public boolean selected(int k) throws IndexOutOfBoundsException {
        if (k < 0 || k >= program.pauseCount) {
            throw new IndexOutOfBoundsException("no such pause");
        }
        return hasBit(reaction.selection, k);
    }

    public int reacts() throws IllegalStateException {
        if (phase != GOING) {
            throw new IllegalStateException("no program goes");
        }
        int found = 0;
        for (int inputs = 0; inputs < INPUT_SETS; inputs++) {
            if (reaction.isFound(inputs)) {
                found++;
            }
        }
        return found;
    }

    public int emits(int s) throws IllegalStateException, IndexOutOfBoundsException {
        if (phase != GOING) {
            throw new IllegalStateException("no program goes");
        }
        if (s < FIRST_EMITTED || s >= SIGNALS) {
            throw new IndexOutOfBoundsException("emitted signals are 4 to 15");
        }
        int found = 0;
        for (int inputs = 0; inputs < INPUT_SETS; inputs++) {
            if (reaction.isFound(inputs) && hasBit(reaction.present, s)) {
                found |= 1 << inputs;
            }
        }
        return found;
    }

    public int count(int what) {
        switch (what) {
            case 0:
                return program.size;
            case 1:
                return program.due;
            case 2:
                return program.pauseCount;
            case 3:
                return program.loopCount;
            case 4:
                return program.weight;
            case 5:
                return reactions;
            case 6:
                return Integer.bitCount(reaction.selection);
            case 7:
                return phase;
            default:
                return NONE;
        }
    }

    private void rewind(int newPhase) {
        phase = newPhase;
        reactions = 0;
        latestKnown = SIGNAL_BITS;
        latestPresent = 0;
        reaction.rewind();
    }

    private static boolean hasBit(int bits, int k) {
        return (bits >> k & 1) != 0;
    }

    private static int statusIn(int known, int present, int s) {
        if (!hasBit(known, s)) {
            return IS_UNKNOWN;
        }
        return hasBit(present, s) ? IS_PRESENT : IS_ABSENT;
    }

    /** Sets of codes: bit c stands for code c. */
    private static final class Codes {
        private static final int ZERO = 1;
        private static final int ONE = 2;
        private static final int TWO = 4;

        private static int ofExit(int x) {
            return TWO << x;
        }

        private static boolean haveZero(int codes) {
            return (codes & ZERO) != 0;
        }

        private static int withoutZero(int codes) {
            return codes & ~ZERO;
        }

        private static int inSequence(int first, int second) {
            return haveZero(first) ? withoutZero(first) | second : first;
        }

        /** The greater ones of all pairs are those of either set that reach the least code of the other. */
        private static int greaterOfPairs(int one, int other) {
            if (one == 0 || other == 0) {
                return 0;
            }
            int least = Math.max(one & -one, other & -other);
            return (one | other) & -least;
        }

        private static int outsideTrap(int codes) {
            int caught = (codes & TWO) != 0 ? ZERO : 0;
            int further = codes >> 3 << 2;
            return codes & (ZERO | ONE) | caught | further;
        }
    }

    /** What a statement does in an instant, in one long: the lower half what it can, the upper what it must. */
    private static final class Outcome {
        private static final int CODE_SHIFT = 16;
        private static final int MUST_SHIFT = 32;
        private static final long CAN_END_WITH_ZERO = 1L << CODE_SHIFT;
        private static final long MUST_END_WITH_ZERO = CAN_END_WITH_ZERO << MUST_SHIFT;

        private static long of(int emitted, int codes, boolean sure) {
            int half = half(emitted, codes);
            return whole(sure ? half : 0, half);
        }

        private static int can(long outcome) {
            return (int) outcome;
        }

        private static int must(long outcome) {
            return (int) (outcome >>> MUST_SHIFT);
        }

        private static int emittedIn(int half) {
            return half & SIGNAL_BITS;
        }

        private static int codesIn(int half) {
            return half >> CODE_SHIFT;
        }

        private static boolean canEndWithZero(long outcome) {
            return (outcome & CAN_END_WITH_ZERO) != 0;
        }

        private static boolean mustEndWithZero(long outcome) {
            return (outcome & MUST_END_WITH_ZERO) != 0;
        }

        private static long withoutZero(long outcome) {
            return outcome & ~(CAN_END_WITH_ZERO | MUST_END_WITH_ZERO);
        }

        private static long withoutSignal(long outcome, int s) {
            long can = 1L << s;
            return outcome & ~(can | can << MUST_SHIFT);
        }

        private static long inParallel(long one, long other) {
            return whole(joined(must(one), must(other)), joined(can(one), can(other)));
        }

        private static long outsideTrap(long outcome) {
            return whole(outsideTrapHalf(must(outcome)), outsideTrapHalf(can(outcome)));
        }

        private static int joined(int one, int other) {
            return half(emittedIn(one | other), Codes.greaterOfPairs(codesIn(one), codesIn(other)));
        }

        private static int outsideTrapHalf(int half) {
            return half(emittedIn(half), Codes.outsideTrap(codesIn(half)));
        }

        private static int half(int emitted, int codes) {
            return emitted | codes << CODE_SHIFT;
        }

        private static long whole(int must, int can) {
            return (long) must << MUST_SHIFT | can;
        }
    }

    /** The statements told so far, numbered as told: the first part of a statement is the one told after it. */
    private static final class Program {
        private final int[] sorts = new int[MOST_STATEMENTS];
        private final int[] operands = new int[MOST_STATEMENTS];
        private final int[] lastParts = new int[MOST_STATEMENTS];
        private final int[] weights = new int[MOST_STATEMENTS];
        private final int[] weightsBefore = new int[MOST_STATEMENTS];
        private final int[] pausesWithin = new int[MOST_STATEMENTS];
        private final int[] startCodes = new int[MOST_STATEMENTS];
        private final int[] open = new int[MOST_DEPTH];
        private final int[] missing = new int[MOST_DEPTH];
        private int levels;
        private int size;
        private int due = 1;
        private int pauseCount;
        private int loopCount;
        private int weight;

        private int forget() {
            int told = size;
            levels = 0;
            size = 0;
            due = 1;
            pauseCount = 0;
            loopCount = 0;
            weight = 0;
            return told;
        }

        private boolean isWhole() {
            return due == 0;
        }

        private boolean has(int at) {
            return at >= 0 && at < size;
        }

        private int sortOf(int at) {
            return has(at) ? sorts[at] : NOTHING;
        }

        private int operandOf(int at) {
            return has(at) ? operands[at] : 0;
        }

        private int secondOf(int at) {
            return has(at) ? lastParts[at] : NONE;
        }

        private int weightOf(int at) {
            return has(at) ? weights[at] : 0;
        }

        private int weightBefore(int at) {
            return has(at) ? weightsBefore[at] : 0;
        }

        private int pausesIn(int at) {
            return has(at) ? pausesWithin[at] : 0;
        }

        private int startCodesOf(int at) {
            return has(at) ? startCodes[at] : 0;
        }

        private boolean allows(int sort, int x) {
            switch (sort) {
                case EMIT:
                case LOCAL:
                    return x >= FIRST_EMITTED && x < SIGNALS;
                case EXIT:
                    return x >= 0 && x < trapsAround();
                case PRESENT:
                case SUSPEND:
                    return x >= -SIGNALS && x < SIGNALS;
                default:
                    return sort >= NOTHING && sort <= LOCAL && x == 0;
            }
        }

        private boolean hasRoomFor(int sort) {
            return size < MOST_STATEMENTS
                && levels < MOST_DEPTH
                && (sort != PAUSE || pauseCount < MOST_PAUSES)
                && (sort != TRAP || trapsAround() < MOST_TRAPS)
                && weight + nextWeight() <= MOST_WEIGHT;
        }

        private int trapsAround() {
            int traps = 0;
            for (int level = 0; level < levels; level++) {
                if (sortOf(open[level]) == TRAP) {
                    traps++;
                }
            }
            return traps;
        }

        private int nextWeight() {
            if (levels == 0) {
                return 1;
            }
            int parent = open[levels - 1];
            int sort = sortOf(parent);
            boolean isSecondInSequence = sort == SEQUENCE && missing[levels - 1] == 1;
            return weightOf(parent) + (sort == LOOP || isSecondInSequence ? 1 : 0);
        }

        /** Adds a statement that is allowed and that there is room for. */
        private void add(int sort, int x) {
            int at = size;
            int own = nextWeight();
            sorts[at] = sort;
            operands[at] = x;
            lastParts[at] = NONE;
            weights[at] = own;
            weightsBefore[at] = weight;
            pausesWithin[at] = 0;
            size++;
            weight += own;
            due += PARTS[sort] - 1;
            if (sort == LOOP) {
                loopCount++;
            }
            if (sort == PAUSE) {
                numberPause(at);
            }
            attach(at);
            if (PARTS[sort] > 0) {
                openUp(at, PARTS[sort]);
            } else {
                closeFull();
            }
        }

        private void numberPause(int at) {
            int bit = 1 << pauseCount;
            pauseCount++;
            pausesWithin[at] = bit;
            for (int level = 0; level < levels; level++) {
                pausesWithin[open[level]] |= bit;
            }
        }

        private void attach(int at) {
            if (levels > 0) {
                lastParts[open[levels - 1]] = at;
                missing[levels - 1]--;
            }
        }

        private void openUp(int at, int parts) {
            if (levels < MOST_DEPTH) {
                open[levels] = at;
                missing[levels] = parts;
                levels++;
            }
        }

        private void closeFull() {
            while (levels > 0 && missing[levels - 1] == 0) {
                levels--;
            }
        }

        /** The number of the first loop whose statement may end with 0 at its start, or NONE. */
        private int firstLoopAtOnce() {
            int found = NONE;
            int loop = loopCount;
            // Backwards, since the parts of a statement are told after it.
            for (int at = size - 1; at >= 0; at--) {
                startCodes[at] = findStartCodes(at);
                if (sorts[at] == LOOP) {
                    loop--;
                    if (Codes.haveZero(startCodesOf(at + 1))) {
                        found = loop;
                    }
                }
            }
            return found;
        }

        private int findStartCodes(int at) {
            int first = startCodesOf(at + 1);
            int second = startCodesOf(secondOf(at));
            switch (sortOf(at)) {
                case PAUSE:
                    return Codes.ONE;
                case EXIT:
                    return Codes.ofExit(operandOf(at));
                case PRESENT:
                    return first | second;
                case SUSPEND:
                case LOCAL:
                    return first;
                case LOOP:
                    return Codes.withoutZero(first);
                case SEQUENCE:
                    return Codes.inSequence(first, second);
                case PARALLEL:
                    return Codes.greaterOfPairs(first, second);
                case TRAP:
                    return Codes.outsideTrap(first);
                default:
                    return Codes.ZERO;
            }
        }
    }

    /**
     * Finds out what the program does in an instant.
     *
     * A statement may run several times in one: it resumes, and then each loop and each sequence around it
     * may start it once. These runs are told apart by a RANK: 0 is the run that the instant itself asks for;
     * a run started by a loop or a sequence has the weight of that one as its rank. So a statement has as many
     * ranks as its weight says, and a local has a status of its own for each.
     */
    private static final class Reaction {
        private static final int TOP = 0;
        private static final int OUTERMOST = 0;
        /** Each pass but the last finds a signal, and there are fewer signals and local statuses than this. */
        private static final int MOST_PASSES = 400;

        private final Program program;
        private final int[] localStatus = new int[MOST_WEIGHT];
        private int selection;
        private int nextSelection;
        private boolean begun;
        private int known;
        private int present;
        private boolean learned;
        private long whole;

        private Reaction(Program program) {
            this.program = program;
        }

        private void rewind() {
            selection = 0;
            begun = false;
        }

        /** Whether the next instant has a reaction on the inputs; changes nothing that lasts. */
        private boolean isFound(int inputs) {
            forgetLocals();
            known = INPUT_BITS;
            present = inputs;
            learned = true;
            // The last pass learns nothing, so the selection that it leaves rests on settled statuses alone.
            for (int pass = 0; learned && pass < MOST_PASSES; pass++) {
                learned = false;
                nextSelection = 0;
                whole = run(TOP, OUTERMOST, true);
                learnSignals();
            }
            // A code that must be is known only if all that ran did so for sure on tests that are known; then
            // what can be emitted is what must be, and neither a signal nor a local is unknown.
            return mustCodes() != 0;
        }

        private void forgetLocals() {
            for (int slot = 0; slot < program.weight && slot < localStatus.length; slot++) {
                localStatus[slot] = IS_UNKNOWN;
            }
        }

        /** Makes the reaction that was found last the past. */
        private void settle() {
            begun = true;
            selection = nextSelection;
        }

        private boolean ends() {
            return mustCodes() != Codes.ONE;
        }

        private int mustCodes() {
            return Outcome.codesIn(Outcome.must(whole));
        }

        private void learnSignals() {
            int must = Outcome.must(whole) & EMITTED_BITS;
            int cannot = ~Outcome.can(whole) & EMITTED_BITS;
            int nowKnown = known | must | cannot;
            if (nowKnown != known) {
                learned = true;
            }
            known = nowKnown;
            present |= must;
        }

        private long run(int at, int rank, boolean sure) {
            switch (program.sortOf(at)) {
                case TRAP:
                    return runTrap(at, rank, sure);
                case LOCAL:
                    return runLocal(at, rank, sure);
                default:
                    return rank == OUTERMOST && begun ? resume(at, sure) : begin(at, rank, sure);
            }
        }

        private long begin(int at, int rank, boolean sure) {
            int x = program.operandOf(at);
            switch (program.sortOf(at)) {
                case PAUSE:
                    nextSelection |= program.pausesIn(at);
                    return Outcome.of(0, Codes.ONE, sure);
                case EMIT:
                    return Outcome.of(1 << x, Codes.ZERO, sure);
                case EXIT:
                    return Outcome.of(0, Codes.ofExit(x), sure);
                case PRESENT:
                    return beginPresent(at, rank, sure);
                case SUSPEND:
                case LOOP:
                    return run(at + 1, rank, sure);
                case SEQUENCE:
                    return andThen(run(at + 1, rank, sure), program.secondOf(at), rank);
                case PARALLEL:
                    return Outcome.inParallel(run(at + 1, rank, sure), run(program.secondOf(at), rank, sure));
                default:
                    return Outcome.of(0, Codes.ZERO, sure);
            }
        }

        private long beginPresent(int at, int rank, boolean sure) {
            int first = at + 1;
            int second = program.secondOf(at);
            switch (tested(program.operandOf(at))) {
                case IS_PRESENT:
                    return run(first, rank, sure);
                case IS_ABSENT:
                    return run(second, rank, sure);
                default:
                    return run(first, rank, false) | run(second, rank, false);
            }
        }

        private long resume(int at, boolean sure) {
            int first = at + 1;
            int second = program.secondOf(at);
            switch (program.sortOf(at)) {
                case PRESENT:
                    return run(isSelectedIn(first) ? first : second, OUTERMOST, sure);
                case SUSPEND:
                    return resumeSuspend(at, sure);
                case SEQUENCE:
                    return isSelectedIn(first)
                        ? andThen(run(first, OUTERMOST, sure), second, program.weightOf(at))
                        : run(second, OUTERMOST, sure);
                case PARALLEL:
                    return Outcome.inParallel(resumeBranch(first, sure), resumeBranch(second, sure));
                case LOOP:
                    return andThen(run(first, OUTERMOST, sure), first, program.weightOf(at));
                default:
                    return Outcome.of(0, Codes.ZERO, sure);
            }
        }

        private long resumeBranch(int at, boolean sure) {
            return isSelectedIn(at) ? run(at, OUTERMOST, sure) : Outcome.of(0, Codes.ZERO, sure);
        }

        private long resumeSuspend(int at, boolean sure) {
            switch (tested(program.operandOf(at))) {
                case IS_PRESENT:
                    nextSelection |= selection & program.pausesIn(at);
                    return Outcome.of(0, Codes.ONE, sure);
                case IS_ABSENT:
                    return run(at + 1, OUTERMOST, sure);
                default:
                    return run(at + 1, OUTERMOST, false) | Outcome.of(0, Codes.ONE, false);
            }
        }

        /** Starts a statement where the outcome so far ends, or can end, with 0. */
        private long andThen(long first, int at, int rank) {
            if (!Outcome.canEndWithZero(first)) {
                return first;
            }
            return Outcome.withoutZero(first) | run(at, rank, Outcome.mustEndWithZero(first));
        }

        private long runTrap(int at, int rank, boolean sure) {
            long inside = run(at + 1, rank, sure);
            if (Outcome.codesIn(Outcome.must(inside)) == Codes.TWO) {
                nextSelection &= ~program.pausesIn(at);
            }
            return Outcome.outsideTrap(inside);
        }

        private long runLocal(int at, int rank, boolean sure) {
            int s = program.operandOf(at);
            int slot = program.weightBefore(at) + rank;
            int knownOutside = known;
            int presentOutside = present;
            long inside = runWithStatus(at, rank, sure);
            if (statusAt(slot) == IS_UNKNOWN && learnLocal(slot, s, inside)) {
                inside = runWithStatus(at, rank, sure);
            }
            known = knownOutside;
            present = presentOutside;
            return Outcome.withoutSignal(inside, s);
        }

        private long runWithStatus(int at, int rank, boolean sure) {
            int bit = 1 << program.operandOf(at);
            int status = statusAt(program.weightBefore(at) + rank);
            known = status == IS_UNKNOWN ? known & ~bit : known | bit;
            present = status == IS_PRESENT ? present | bit : present & ~bit;
            return run(at + 1, rank, sure);
        }

        private boolean learnLocal(int slot, int s, long inside) {
            if (hasBit(Outcome.must(inside), s)) {
                learnStatus(slot, IS_PRESENT);
                return true;
            }
            if (!hasBit(Outcome.can(inside), s)) {
                learnStatus(slot, IS_ABSENT);
                return true;
            }
            return false;
        }

        private void learnStatus(int slot, int status) {
            if (slot >= 0 && slot < localStatus.length) {
                localStatus[slot] = status;
                learned = true;
            }
        }

        private int statusAt(int slot) {
            return slot >= 0 && slot < localStatus.length ? localStatus[slot] : IS_UNKNOWN;
        }

        private boolean isSelectedIn(int at) {
            return (selection & program.pausesIn(at)) != 0;
        }

        private int tested(int test) {
            int s = test < 0 ? -1 - test : test;
            int found = statusIn(known, present, s);
            if (found == IS_UNKNOWN || test >= 0) {
                return found;
            }
            return found == IS_PRESENT ? IS_ABSENT : IS_PRESENT;
        }
    }
}
