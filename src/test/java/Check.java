/** Counts the answers that are not the ones that are due, and prints them. */
final class Check {
    /** A call that may throw. */
    interface Call {
        void make();
    }

    private final String name;
    private String words = "";
    private int asked;
    private int wrong;

    Check(String name) {
        this.name = name;
    }

    /** The words of the document that the next answers are asked for. */
    void sentence(String quoted) {
        words = " \"" + quoted + "\"";
    }

    void same(String what, long got, long due) {
        same(what, String.valueOf(got), String.valueOf(due));
    }

    void same(String what, String got, String due) {
        asked++;
        if (!got.equals(due)) {
            wrong++;
            System.out.println(name + words + ": " + what + " answered " + got + ", due is " + due);
        }
    }

    void same(String what, boolean got, boolean due) {
        same(what, got ? 1 : 0, due ? 1 : 0);
    }

    void fails(String what, Class<? extends RuntimeException> due, Call call) {
        asked++;
        String got = "nothing";
        try {
            call.make();
        } catch (RuntimeException e) {
            if (e.getClass() == due) {
                return;
            }
            got = e.getClass().getSimpleName();
        }
        wrong++;
        System.out.println(name + words + ": " + what + " threw " + got + ", due is " + due.getSimpleName());
    }

    /** The call throws, and nothing that can be asked of the desk is changed by it. */
    void refuses(String what, Class<? extends RuntimeException> due, ReactionDesk desk, Call call) {
        String before = Told.seen(desk);
        fails(what, due, call);
        same(what + ", seen after it", Told.seen(desk), before);
    }

    boolean isRight() {
        return wrong == 0;
    }

    void end() {
        System.out.println(name + ": " + asked + " answers, " + wrong + " wrong");
        if (wrong > 0) {
            System.exit(1);
        }
    }
}
