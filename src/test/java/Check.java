/** Counts the answers that are not the ones that are due, and prints them. */
final class Check {
    /** A call that may throw. */
    interface Call {
        void make();
    }

    private final String name;
    private int asked;
    private int wrong;

    Check(String name) {
        this.name = name;
    }

    void same(String what, long got, long due) {
        asked++;
        if (got != due) {
            wrong++;
            System.out.println(name + ": " + what + " answered " + got + ", due is " + due);
        }
    }

    void same(String what, boolean got, boolean due) {
        same(what, got ? 1 : 0, due ? 1 : 0);
    }

    void fails(String what, Class<? extends RuntimeException> due, Call call) {
        asked++;
        String got = "nothing";
        try {
            call.make();
        } catch (RuntimeException e) {
            if (e.getClass() == due) {
                return;
            }
            got = e.getClass().getSimpleName();
        }
        wrong++;
        System.out.println(name + ": " + what + " threw " + got + ", due is " + due.getSimpleName());
    }

    boolean isRight() {
        return wrong == 0;
    }

    void end() {
        System.out.println(name + ": " + asked + " answers, " + wrong + " wrong");
        if (wrong > 0) {
            System.exit(1);
        }
    }
}
