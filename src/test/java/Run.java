/**
 * An object in use, called by name. Every answer is a text, an exception's is "throws " and its name. The calls are
 * counted: what an object answers behind its 512th call is free, so no test may go there.
 */
final class Run {
    static final int COLD = 0;
    static final int WARM = 1;
    static final int HOT = 2;
    static final int OUT = 0;
    static final int IN = 1;

    static final String INDEX = "IndexOutOfBoundsException";
    static final String ARGUMENT = "IllegalArgumentException";
    static final String STATE = "IllegalStateException";
    static final String ELEMENT = "NoSuchElementException";
    static final String UNSUPPORTED = "UnsupportedOperationException";
    static final String ARITHMETIC = "ArithmeticException";

    private static final int MAX_CALLS = 512;

    private final BathLeague league = new BathLeague();
    private int calls = 0;

    String ask(String name, int... arguments) {
        calls++;
        if (calls > MAX_CALLS) {
            Check.tell("the test makes more than 512 calls");
        }
        return Check.outcome(() -> Face.call(league, name, arguments));
    }

    Run due(Object want, String name, int... arguments) {
        Check.due(told(name, arguments), ask(name, arguments), String.valueOf(want));
        return this;
    }

    Run refused(String exception, String name, int... arguments) {
        return due("throws " + exception, name, arguments);
    }

    /** A call that only leads to what is tested: it must not be refused. */
    Run does(String name, int... arguments) {
        String answer = ask(name, arguments);
        if (answer.startsWith("throws ")) {
            Check.tell(told(name, arguments) + " was to be done, and answered " + answer);
        }
        return this;
    }

    Run baths(int count) {
        for (int i = 0; i < count; i++) {
            does("addBath");
        }
        return this;
    }

    /** Fills in as many calls as the limit of one call asks for. */
    Run fill(int bath, int tap, int litres) {
        for (int left = litres; left > 0; left -= 20) {
            does("runTap", bath, tap, Math.min(20, left));
        }
        return this;
    }

    Run typed(String script) {
        for (int i = 0; i < script.length(); i++) {
            does("type", script.charAt(i));
        }
        return this;
    }

    Run scriptDue(Object want, String script) {
        typed(script);
        Check.due("runScript of '" + script + "'", ask("runScript"), String.valueOf(want));
        return this;
    }

    Run scriptRefused(String exception, String script) {
        return scriptDue("throws " + exception, script);
    }

    private static String told(String name, int... arguments) {
        return name + java.util.Arrays.toString(arguments);
    }
}
