import java.util.Objects;

/** Counts what holds and what does not; a failing test is told by its name. */
final class Check {
    interface Call {
        Object answer();
    }

    private static int passed = 0;
    private static int failed = 0;
    private static boolean holds = true;

    private Check() {
    }

    static void test(String name, Runnable body) {
        holds = true;
        try {
            body.run();
        } catch (RuntimeException e) {
            tell("stopped by " + e);
        }
        if (holds) {
            passed++;
        } else {
            failed++;
            System.out.println("FAILED: " + name);
        }
    }

    static void due(String call, Object got, Object want) {
        if (!Objects.equals(got, want)) {
            tell(call + " answered " + got + ", due is " + want);
        }
    }

    /** The very class counts: a machine's ArrayIndexOutOfBoundsException is no IndexOutOfBoundsException of ours. */
    static void refused(String call, Class<? extends RuntimeException> want, Call body) {
        due(call, outcome(body), "throws " + want.getSimpleName());
    }

    static String outcome(Call body) {
        try {
            return String.valueOf(body.answer());
        } catch (RuntimeException e) {
            return "throws " + e.getClass().getSimpleName();
        }
    }

    static void tell(String fault) {
        holds = false;
        System.out.println("  " + fault);
    }

    static void finish() {
        System.out.println(passed + " passed, " + failed + " failed");
        if (failed != 0 || passed == 0) {
            System.exit(1);
        }
    }
}
