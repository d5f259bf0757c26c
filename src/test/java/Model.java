import java.util.ArrayList;
import java.util.List;
import java.util.Set;
import java.util.TreeSet;

/**
 * The document read word by word, without regard to time: a local's statement is asked anew each time its
 * status is found, so that locals within locals take time that doubles with each.
 */
final class Model {
    /** One statement with those that it has. */
    static final class Statement {
        final int sort;
        final int x;
        final List<Statement> parts = new ArrayList<>();
        int pause = -1;
        int loop = -1;

        Statement(int sort, int x) {
            this.sort = sort;
            this.x = x;
        }

        Statement first() {
            return parts.get(0);
        }

        Statement second() {
            return parts.get(1);
        }
    }

    /** What one asks of a statement in an instant. */
    static final class Answer {
        final Set<Integer> mustEmit = new TreeSet<>();
        final Set<Integer> canEmit = new TreeSet<>();
        final Set<Integer> codes = new TreeSet<>();
        Integer mustCode;
        boolean unknownLocal;

        static Answer ending(int code, boolean sure) {
            Answer answer = new Answer();
            answer.codes.add(code);
            answer.mustCode = sure ? code : null;
            return answer;
        }

        void takeEmissions(Answer other) {
            mustEmit.addAll(other.mustEmit);
            canEmit.addAll(other.canEmit);
            unknownLocal |= other.unknownLocal;
        }
    }

    final Statement program;
    private final List<Statement> all = new ArrayList<>();
    Set<Integer> selection = new TreeSet<>();
    private boolean started;
    boolean ended;
    int reactions;
    int[] statuses = new int[16];

    Model(Statement program) {
        this.program = program;
        number(program, new int[2]);
    }

    private void number(Statement p, int[] next) {
        all.add(p);
        if (p.sort == Told.PAUSE) {
            p.pause = next[0]++;
        }
        if (p.sort == Told.LOOP) {
            p.loop = next[1]++;
        }
        for (Statement part : p.parts) {
            number(part, next);
        }
    }

    /** 0, or 1 + the number of the first loop that is refused. */
    int start() {
        for (Statement p : all) {
            if (p.sort == Told.LOOP && startCodes(p.first()).contains(0)) {
                return 1 + p.loop;
            }
        }
        selection = new TreeSet<>();
        started = false;
        ended = false;
        reactions = 0;
        statuses = new int[16];
        return 0;
    }

    static Set<Integer> startCodes(Statement p) {
        Set<Integer> codes = new TreeSet<>();
        switch (p.sort) {
            case Told.NOTHING, Told.EMIT -> codes.add(0);
            case Told.PAUSE -> codes.add(1);
            case Told.EXIT -> codes.add(2 + p.x);
            case Told.PRESENT -> {
                codes.addAll(startCodes(p.first()));
                codes.addAll(startCodes(p.second()));
            }
            case Told.SEQUENCE -> {
                codes.addAll(startCodes(p.first()));
                if (codes.remove(0)) {
                    codes.addAll(startCodes(p.second()));
                }
            }
            case Told.PARALLEL -> codes.addAll(greater(startCodes(p.first()), startCodes(p.second())));
            case Told.TRAP -> {
                for (int code : startCodes(p.first())) {
                    codes.add(outside(code));
                }
            }
            default -> {
                codes.addAll(startCodes(p.first()));
                if (p.sort == Told.LOOP) {
                    codes.remove(0);
                }
            }
        }
        return codes;
    }

    private static Set<Integer> greater(Set<Integer> one, Set<Integer> other) {
        Set<Integer> codes = new TreeSet<>();
        for (int a : one) {
            for (int b : other) {
                codes.add(Math.max(a, b));
            }
        }
        return codes;
    }

    private static int outside(int code) {
        return code < 2 ? code : code == 2 ? 0 : code - 1;
    }

    /** Answers as the desk's instant does. */
    int instant(int inputs) {
        int[] found = find(inputs);
        statuses = found;
        if (!hasReaction(found)) {
            return 2;
        }
        Set<Integer> next = new TreeSet<>();
        int code = go(program, !started, found, next);
        selection = next;
        started = true;
        reactions++;
        ended = code != 1;
        return ended ? 1 : 0;
    }

    /** The statuses found on the inputs, in an instant that need not have a reaction. */
    int[] find(int inputs) {
        int[] status = new int[16];
        for (int s = 0; s < 16; s++) {
            status[s] = s < 4 ? inputs >> s & 1 : 2;
        }
        boolean changed = true;
        while (changed) {
            changed = false;
            Answer answer = ask(program, !started, true, status);
            for (int s = 4; s < 16; s++) {
                int now = answer.mustEmit.contains(s) ? 1 : answer.canEmit.contains(s) ? 2 : 0;
                if (status[s] == 2 && now != 2) {
                    status[s] = now;
                    changed = true;
                }
            }
        }
        return status;
    }

    boolean hasReaction(int[] status) {
        for (int s = 0; s < 16; s++) {
            if (status[s] == 2) {
                return false;
            }
        }
        Answer answer = ask(program, !started, true, status);
        return !answer.unknownLocal && answer.mustCode != null;
    }

    private static int test(int x, int[] status) {
        if (x >= 0) {
            return status[x];
        }
        int found = status[-1 - x];
        return found == 2 ? 2 : 1 - found;
    }

    private boolean isSelectedIn(Statement p) {
        if (selection.contains(p.pause)) {
            return true;
        }
        for (Statement part : p.parts) {
            if (isSelectedIn(part)) {
                return true;
            }
        }
        return false;
    }

    private Answer ask(Statement p, boolean starts, boolean sure, int[] status) {
        if (p.sort == Told.TRAP) {
            return askTrap(p, starts, sure, status);
        }
        if (p.sort == Told.LOCAL) {
            return askLocal(p, starts, sure, status);
        }
        return starts ? askStart(p, sure, status) : askResume(p, sure, status);
    }

    private Answer askStart(Statement p, boolean sure, int[] status) {
        switch (p.sort) {
            case Told.PAUSE:
                return Answer.ending(1, sure);
            case Told.EXIT:
                return Answer.ending(2 + p.x, sure);
            case Told.EMIT:
                Answer answer = Answer.ending(0, sure);
                answer.canEmit.add(p.x);
                if (sure) {
                    answer.mustEmit.add(p.x);
                }
                return answer;
            case Told.PRESENT:
                int found = test(p.x, status);
                if (found != 2) {
                    return ask(found == 1 ? p.first() : p.second(), true, sure, status);
                }
                return either(ask(p.first(), true, false, status), ask(p.second(), true, false, status));
            case Told.SEQUENCE:
                return followed(ask(p.first(), true, sure, status), p.second(), status);
            case Told.PARALLEL:
                return both(ask(p.first(), true, sure, status), ask(p.second(), true, sure, status));
            case Told.SUSPEND:
            case Told.LOOP:
                return ask(p.first(), true, sure, status);
            default:
                return Answer.ending(0, sure);
        }
    }

    private Answer askResume(Statement p, boolean sure, int[] status) {
        switch (p.sort) {
            case Told.PAUSE:
                return Answer.ending(0, sure);
            case Told.SEQUENCE:
                if (isSelectedIn(p.first())) {
                    return followed(ask(p.first(), false, sure, status), p.second(), status);
                }
                return ask(p.second(), false, sure, status);
            case Told.PRESENT:
                return ask(isSelectedIn(p.first()) ? p.first() : p.second(), false, sure, status);
            case Told.PARALLEL:
                return both(askBranch(p.first(), sure, status), askBranch(p.second(), sure, status));
            case Told.SUSPEND:
                int found = test(p.x, status);
                if (found == 1) {
                    return Answer.ending(1, sure);
                }
                if (found == 0) {
                    return ask(p.first(), false, sure, status);
                }
                return either(Answer.ending(1, false), ask(p.first(), false, false, status));
            case Told.LOOP:
                return followed(ask(p.first(), false, sure, status), p.first(), status);
            default:
                throw new AssertionError("resumes without a selected pause: sort " + p.sort);
        }
    }

    private Answer askBranch(Statement p, boolean sure, int[] status) {
        return isSelectedIn(p) ? ask(p, false, sure, status) : Answer.ending(0, sure);
    }

    private Answer askTrap(Statement p, boolean starts, boolean sure, int[] status) {
        Answer inside = ask(p.first(), starts, sure, status);
        Answer answer = new Answer();
        answer.takeEmissions(inside);
        for (int code : inside.codes) {
            answer.codes.add(outside(code));
        }
        answer.mustCode = inside.mustCode == null ? null : Integer.valueOf(outside(inside.mustCode));
        return answer;
    }

    private Answer askLocal(Statement p, boolean starts, boolean sure, int[] status) {
        int[] within = localStatuses(p, starts, sure, status);
        Answer answer = ask(p.first(), starts, sure, within);
        answer.mustEmit.remove(p.x);
        answer.canEmit.remove(p.x);
        answer.unknownLocal |= sure && within[p.x] == 2;
        return answer;
    }

    private int[] localStatuses(Statement p, boolean starts, boolean sure, int[] status) {
        int[] within = status.clone();
        within[p.x] = 2;
        Answer answer = ask(p.first(), starts, sure, within);
        if (answer.mustEmit.contains(p.x)) {
            within[p.x] = 1;
        } else if (!answer.canEmit.contains(p.x)) {
            within[p.x] = 0;
        }
        return within;
    }

    private Answer either(Answer one, Answer other) {
        Answer answer = new Answer();
        answer.takeEmissions(one);
        answer.takeEmissions(other);
        answer.codes.addAll(one.codes);
        answer.codes.addAll(other.codes);
        return answer;
    }

    private Answer both(Answer one, Answer other) {
        Answer answer = new Answer();
        answer.takeEmissions(one);
        answer.takeEmissions(other);
        answer.codes.addAll(greater(one.codes, other.codes));
        if (one.mustCode != null && other.mustCode != null) {
            answer.mustCode = Math.max(one.mustCode, other.mustCode);
        }
        return answer;
    }

    private Answer followed(Answer first, Statement p, int[] status) {
        if (!first.codes.contains(0)) {
            return first;
        }
        boolean sure = first.mustCode != null && first.mustCode == 0;
        Answer then = ask(p, true, sure, status);
        Answer answer = new Answer();
        answer.takeEmissions(first);
        answer.takeEmissions(then);
        answer.codes.addAll(first.codes);
        answer.codes.remove(0);
        answer.codes.addAll(then.codes);
        answer.mustCode = sure ? then.mustCode : null;
        return answer;
    }

    /** Goes through a reaction whose statuses are all known: the code, and the pauses that are selected then. */
    private int go(Statement p, boolean starts, int[] status, Set<Integer> next) {
        switch (p.sort) {
            case Told.TRAP:
                return goTrap(p, starts, status, next);
            case Told.LOCAL:
                return go(p.first(), starts, localStatuses(p, starts, true, status), next);
            case Told.PARALLEL:
                return Math.max(goBranch(p.first(), starts, status, next), goBranch(p.second(), starts, status, next));
            default:
                return starts ? goStart(p, status, next) : goResume(p, status, next);
        }
    }

    private int goTrap(Statement p, boolean starts, int[] status, Set<Integer> next) {
        Set<Integer> inside = new TreeSet<>();
        int code = go(p.first(), starts, status, inside);
        if (code < 2) {
            next.addAll(inside);
        }
        return outside(code);
    }

    private int goBranch(Statement p, boolean starts, int[] status, Set<Integer> next) {
        return starts || isSelectedIn(p) ? go(p, starts, status, next) : 0;
    }

    private int goStart(Statement p, int[] status, Set<Integer> next) {
        switch (p.sort) {
            case Told.PAUSE:
                next.add(p.pause);
                return 1;
            case Told.EXIT:
                return 2 + p.x;
            case Told.PRESENT:
                return go(test(p.x, status) == 1 ? p.first() : p.second(), true, status, next);
            case Told.SEQUENCE:
                int code = go(p.first(), true, status, next);
                return code == 0 ? go(p.second(), true, status, next) : code;
            case Told.SUSPEND:
            case Told.LOOP:
                return go(p.first(), true, status, next);
            default:
                return 0;
        }
    }

    private int goResume(Statement p, int[] status, Set<Integer> next) {
        switch (p.sort) {
            case Told.PRESENT:
                return go(isSelectedIn(p.first()) ? p.first() : p.second(), false, status, next);
            case Told.SUSPEND:
                if (test(p.x, status) == 0) {
                    return go(p.first(), false, status, next);
                }
                keep(p, next);
                return 1;
            case Told.SEQUENCE:
                if (!isSelectedIn(p.first())) {
                    return go(p.second(), false, status, next);
                }
                int first = go(p.first(), false, status, next);
                return first == 0 ? go(p.second(), true, status, next) : first;
            case Told.LOOP:
                int code = go(p.first(), false, status, next);
                return code == 0 ? go(p.first(), true, status, next) : code;
            default:
                return 0;
        }
    }

    private void keep(Statement p, Set<Integer> next) {
        if (selection.contains(p.pause)) {
            next.add(p.pause);
        }
        for (Statement part : p.parts) {
            keep(part, next);
        }
    }
}
