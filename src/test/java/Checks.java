import java.util.function.IntSupplier;

/** Counts the checks of one test class and prints those that fail. */
final class Checks {
    private int passed = 0;
    private int failed = 0;

    void due(String what, Object got, Object want) {
        if (want.equals(got)) {
            passed++;
        } else {
            failed++;
            System.out.println("  " + what + ": got " + got + ", due is " + want);
        }
    }

    /** Every call throws just this exception. */
    void thrown(String what, Class<? extends RuntimeException> want, IntSupplier... calls) {
        for (int number = 0; number < calls.length; number++) {
            due(what + ", wrong call " + number, outcome(calls[number]), want.getSimpleName());
        }
    }

    int made() {
        return passed + failed;
    }

    static String outcome(IntSupplier call) {
        try {
            return "answer " + call.getAsInt();
        } catch (RuntimeException e) {
            return e.getClass().getSimpleName();
        }
    }

    /** Ends the program, with exit code 1 if a check failed. */
    void end(String name) {
        System.out.println(name + ": " + passed + " checks passed, " + failed + " failed");
        if (failed != 0 || passed == 0) {
            System.exit(1);
        }
    }
}
