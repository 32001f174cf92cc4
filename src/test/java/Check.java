/** Compares answers with what is due, and counts. */
final class Check {
    interface Act {
        void run();
    }

    private final String test;
    private String promise = "";
    private int passed;
    private int failed;

    Check(String test) {
        this.test = test;
    }

    void promise(String name) {
        promise = name;
    }

    void is(String what, long want, long got) {
        count(what, String.valueOf(want), String.valueOf(got));
    }

    void yes(String what, boolean got) {
        count(what, "true", String.valueOf(got));
    }

    void no(String what, boolean got) {
        count(what, "false", String.valueOf(got));
    }

    /** The call throws exactly this exception, no subclass of it. */
    void fails(String what, Class<? extends RuntimeException> want, Act act) {
        String got = "nothing";
        try {
            act.run();
        } catch (RuntimeException e) {
            got = e.getClass().getName();
        }
        count(what, want.getName(), got);
    }

    void same(String what, String want, String got) {
        count(what, want, got);
    }

    private void count(String what, String want, String got) {
        if (want.equals(got)) {
            passed++;
        } else {
            failed++;
            System.out.println(test + ", " + promise + ": " + what + " answered " + got + ", due is " + want);
        }
    }

    /** Exit code 1 if an answer was wrong. */
    void end() {
        System.out.println(test + ": " + passed + " passed, " + failed + " failed");
        if (failed > 0 || passed == 0) {
            System.exit(1);
        }
    }
}
