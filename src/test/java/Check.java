/** Counts what holds and what does not; the tests share it. */
final class Check {
    private static int passed = 0;
    private static int failed = 0;

    private Check() {
    }

    static void is(String what, long got, long due) {
        note(what, got == due, String.valueOf(got), String.valueOf(due));
    }

    static void is(String what, double got, double due) {
        note(what, got == due, String.valueOf(got), String.valueOf(due));
    }

    static void is(String what, char got, char due) {
        note(what, got == due, String.valueOf(got), String.valueOf(due));
    }

    static void is(String what, boolean got, boolean due) {
        note(what, got == due, String.valueOf(got), String.valueOf(due));
    }

    static void is(String what, String got, String due) {
        note(what, got.equals(due), got, due);
    }

    /** The call must throw just this class, not one below it. */
    static void thrown(String what, Class<? extends RuntimeException> due, Runnable call) {
        String got = "nothing";
        try {
            call.run();
        } catch (RuntimeException e) {
            got = e.getClass().getName();
        }
        note(what, got.equals(due.getName()), got, due.getName());
    }

    /** The call must throw just this class and leave all that can be asked as it was. */
    static void refused(String what, DelveKeep keep, Class<? extends RuntimeException> due, Runnable call) {
        String before = Keeps.all(keep);
        thrown(what, due, call);
        is(what + " changes nothing", Keeps.all(keep), before);
    }

    static void end() {
        System.out.println(passed + " passed, " + failed + " failed");
        if (failed > 0) {
            System.exit(1);
        }
    }

    private static void note(String what, boolean holds, String got, String due) {
        if (holds) {
            passed++;
        } else {
            failed++;
            System.out.println(what + " answered " + got + ", due is " + due);
        }
    }
}
