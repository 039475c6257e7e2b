/** Counts and prints what is not as due, and ends the test with exit code 1 if there was such a thing. */
final class Check {
    /** A call whose answer is a number; a boolean counts 1 or 0, no answer 0. */
    interface Call {
        long answer();
    }

    private final String name;
    private int looked;
    private int wrong;

    Check(String name) {
        this.name = name;
    }

    void that(String what, boolean holds) {
        looked++;
        if (!holds) {
            say(what + " does not hold");
        }
    }

    void same(String what, Object got, Object due) {
        looked++;
        if (!got.equals(due)) {
            say(what + " is " + got + ", due is " + due);
        }
    }

    /** What a call answers, as a text: its number, or "throws." and the name of what it throws. */
    void call(String what, Call call, Object due) {
        same(what, answerOf(call), String.valueOf(due));
    }

    static String answerOf(Call call) {
        try {
            return String.valueOf(call.answer());
        } catch (RuntimeException e) {
            return "throws." + e.getClass().getSimpleName();
        }
    }

    private void say(String text) {
        wrong++;
        System.out.println(name + ": " + text);
    }

    void end() {
        System.out.println(name + ": " + looked + " looked at, " + wrong + " wrong");
        if (wrong > 0 || looked == 0) {
            System.exit(1);
        }
    }
}
