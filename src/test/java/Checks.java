/** Counts the checks of one test, prints those that are wrong, and ends the test. */
final class Checks {
    private int made = 0;
    private int wrong = 0;

    void same(String what, long got, long due) {
        note(what, got == due, got, due);
    }

    void same(String what, boolean got, boolean due) {
        note(what, got == due, got, due);
    }

    void same(String what, float got, float due) {
        note(what, Float.compare(got, due) == 0, got, due);
    }

    void same(String what, String got, String due) {
        note(what, got.equals(due), got, due);
    }

    /** The call must throw this very exception, no class below or above it. */
    void fails(String what, Class<? extends RuntimeException> due, Runnable call) {
        String got = "nothing";
        try {
            call.run();
        } catch (RuntimeException e) {
            got = e.getClass().getSimpleName();
        }
        note(what, got.equals(due.getSimpleName()), got, due.getSimpleName());
    }

    private void note(String what, boolean right, Object got, Object due) {
        made++;
        if (!right) {
            wrong++;
            System.out.println(what + " answered " + got + ", due is " + due);
        }
    }

    void end() {
        System.out.println(made + " checks, " + wrong + " wrong");
        if (wrong != 0 || made == 0) {
            System.exit(1);
        }
    }
}
