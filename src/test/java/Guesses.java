import java.util.ArrayList;
import java.util.List;

/**
 * A program gone through with a guessed status for each signal, without regard to must and can. A run holds if each
 * signal, and each local each time it ran, was emitted just where the guess had it present.
 */
final class Guesses {
    /** A run that holds: the signals present in it, how the program ended, and the pauses selected then. */
    record Run(int present, int code, int selection) {
    }

    /** How a statement ended, and the pauses selected in it. */
    private record Step(int code, int selection) {
    }

    private static final int EMITTED = 0xFFF0;

    private final Model.Statement program;
    private boolean begun;
    private int selection;
    private final List<Boolean> ofLocals = new ArrayList<>();
    private int localsMet;
    private int emitted;
    private boolean holds;

    /** Of a program whose pauses are numbered. */
    Guesses(Model.Statement program) {
        this.program = program;
    }

    void goOn(Run run) {
        begun = true;
        selection = run.selection;
    }

    List<Run> thatHold(int inputs) {
        List<Run> found = new ArrayList<>();
        int emitters = emittersIn(program);
        // All subsets of what is emitted anywhere, from the full one down to none.
        for (int guess = emitters; guess >= 0; guess = guess == 0 ? -1 : guess - 1 & emitters) {
            ofLocals.clear();
            do {
                Run run = runOn(inputs | guess);
                if (holds) {
                    found.add(run);
                }
            } while (guessAnew());
        }
        return found;
    }

    private static int emittersIn(Model.Statement p) {
        int bits = p.sort == Told.EMIT ? 1 << p.x : 0;
        for (Model.Statement part : p.parts) {
            bits |= emittersIn(part);
        }
        return bits;
    }

    private Run runOn(int present) {
        localsMet = 0;
        emitted = 0;
        holds = true;
        Step step = go(program, !begun, present);
        holds &= emitted == (present & EMITTED);
        return new Run(present, step.code, step.selection);
    }

    /** The next guess of the locals that were met, or false when there is none. */
    private boolean guessAnew() {
        while (!ofLocals.isEmpty()) {
            if (!ofLocals.remove(ofLocals.size() - 1)) {
                ofLocals.add(true);
                return true;
            }
        }
        return false;
    }

    private boolean guessOfLocal() {
        if (localsMet == ofLocals.size()) {
            ofLocals.add(false);
        }
        return ofLocals.get(localsMet++);
    }

    private Step go(Model.Statement p, boolean starts, int present) {
        switch (p.sort) {
            case Told.PAUSE:
                return starts ? new Step(1, 1 << p.pause) : new Step(0, 0);
            case Told.EMIT:
                emitted |= 1 << p.x;
                return new Step(0, 0);
            case Told.EXIT:
                return new Step(2 + p.x, 0);
            case Told.PRESENT:
                boolean isFirst = starts ? isTrue(p.x, present) : isSelectedIn(p.first());
                return go(isFirst ? p.first() : p.second(), starts, present);
            case Told.SUSPEND:
                boolean stays = !starts && isTrue(p.x, present);
                return stays ? new Step(1, selection & pausesIn(p)) : go(p.first(), starts, present);
            case Told.SEQUENCE:
                return starts || isSelectedIn(p.first())
                    ? goThen(p.first(), p.second(), starts, present)
                    : go(p.second(), false, present);
            case Told.PARALLEL:
                return together(goBranch(p.first(), starts, present), goBranch(p.second(), starts, present));
            case Told.LOOP:
                return goThen(p.first(), p.first(), starts, present);
            case Told.TRAP:
                Step inside = go(p.first(), starts, present);
                return inside.code < 2 ? inside : new Step(inside.code == 2 ? 0 : inside.code - 1, 0);
            case Told.LOCAL:
                return goLocal(p, starts, present);
            default:
                return new Step(0, 0);
        }
    }

    private Step goThen(Model.Statement p, Model.Statement next, boolean starts, int present) {
        Step step = go(p, starts, present);
        return step.code == 0 ? go(next, true, present) : step;
    }

    private Step goBranch(Model.Statement p, boolean starts, int present) {
        return starts || isSelectedIn(p) ? go(p, starts, present) : new Step(0, 0);
    }

    /** Pauses stay selected only where it is with them that both end: an exit leaves none. */
    private static Step together(Step one, Step other) {
        int code = Math.max(one.code, other.code);
        return new Step(code, code == 1 ? one.selection | other.selection : 0);
    }

    private Step goLocal(Model.Statement p, boolean starts, int present) {
        int bit = 1 << p.x;
        int emittedOutside = emitted & bit;
        boolean guess = guessOfLocal();
        emitted &= ~bit;
        Step step = go(p.first(), starts, guess ? present | bit : present & ~bit);
        holds &= guess == ((emitted & bit) != 0);
        emitted = emitted & ~bit | emittedOutside;
        return step;
    }

    private static boolean isTrue(int test, int present) {
        return test >= 0 ? (present >> test & 1) == 1 : (present >> -1 - test & 1) == 0;
    }

    private boolean isSelectedIn(Model.Statement p) {
        return (selection & pausesIn(p)) != 0;
    }

    private static int pausesIn(Model.Statement p) {
        int bits = p.sort == Told.PAUSE ? 1 << p.pause : 0;
        for (Model.Statement part : p.parts) {
            bits |= pausesIn(part);
        }
        return bits;
    }
}
