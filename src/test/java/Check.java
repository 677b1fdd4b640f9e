/** Counts the answers of a test that are not as due, and ends it. */
final class Check {
    interface Call {
        long answer();
    }

    interface Act {
        void run();
    }

    private static final String INDEX = "IndexOutOfBoundsException";
    private static final String ARGUMENT = "IllegalArgumentException";
    private static final String STATE = "IllegalStateException";

    private final String test;
    private String part = "";
    private int checks;
    private int wrong;

    Check(String test) {
        this.test = test;
    }

    /** What follows is printed with this in front, until another part begins. */
    void begin(String newPart) {
        part = newPart.isEmpty() ? "" : newPart + ": ";
    }

    int many() {
        return checks;
    }

    void same(String what, long due, Call call) {
        String got;
        try {
            got = Long.toString(call.answer());
        } catch (RuntimeException e) {
            got = e.getClass().getSimpleName();
        }
        compare(what, Long.toString(due), got);
    }

    void yes(String what, boolean got) {
        compare(what, "true", Boolean.toString(got));
    }

    void no(String what, boolean got) {
        compare(what, "false", Boolean.toString(got));
    }

    void noIndex(String what, Act act) {
        fails(what, INDEX, act);
    }

    void noArgument(String what, Act act) {
        fails(what, ARGUMENT, act);
    }

    void noState(String what, Act act) {
        fails(what, STATE, act);
    }

    void fails(String what, String due, Act act) {
        String got = "nothing thrown";
        try {
            act.run();
        } catch (RuntimeException e) {
            // The exact class: a subclass would be one that the machine throws.
            got = e.getClass().getSimpleName();
        }
        compare(what, due, got);
    }

    void compare(String what, String due, String got) {
        checks++;
        if (!due.equals(got)) {
            wrong++;
            System.out.println(test + ": " + part + what + " answered " + got + ", due is " + due);
        }
    }

    void end() {
        System.out.println(test + ": " + checks + " checks, " + wrong + " wrong");
        if (wrong != 0 || checks == 0) {
            System.exit(1);
        }
    }
}
