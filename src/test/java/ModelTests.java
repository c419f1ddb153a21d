import java.util.Arrays;
import java.util.Random;

/** Runs of up to 512 calls, drawn from fixed seeds, on BathLeague and on the model of the document. */
final class ModelTests {
    private static final int RUNS = 3000;
    private static final int CALLS = 512;

    private static final String[] QUERIES = {
        "bathCount", "memberCount", "leagueHeat", "leagueHeatByOthers", "warmestMember", "coldestMember", "sharedHeat",
        "duckCount", "eventCount", "time", "defectionTotal", "tappedLitres", "drainedLitres", "tappedHeat", "lostHeat",
        "contentShare", "isConsistent", "errorPosition", "failedCommand",
    };
    private static final String[] BATH_QUERIES = {
        "volume", "heat", "temperature", "exactTemperature", "isPlugged", "bathByTemperature", "isMember",
        "ticksUntilDefection", "renderBath", "ticksUntilDefection",
    };
    private static final String[] DUCK_QUERIES = {
        "observedBath", "lowerBound", "upperBound", "isContent", "quacks", "duckByQuacks", "quacks", "duckByQuacks",
    };
    private static final String[] EVENT_QUERIES = {"eventKind", "eventBath", "eventLitres", "outputAt"};
    private static final String[] ANYTHING = {
        "bath", "tap ", "plug ", "pour ", "duck ", "join ", "leave ", "tick", "tick ", ";", " ", "0", "1", "9", "c",
        "w", "h", "+", "-", "t", "p", "ti", "ta", "pl", "po", "x", ":", "/", "~", "B",
    };

    private final Random random;
    private BathLeague league = new BathLeague();
    private Model model = new Model();
    private int callsLeft = CALLS;
    private boolean agrees = true;

    private ModelTests(long seed) {
        random = new Random(seed);
    }

    static void run() {
        Check.test("BathLeague answers what the model answers", () -> {
            boolean agrees = true;
            for (int seed = 0; seed < RUNS && agrees; seed++) {
                agrees = new ModelTests(seed).agree();
                Check.due("the run with the seed " + seed, agrees, true);
            }
        });
    }

    private boolean agree() {
        while (callsLeft > 0 && agrees) {
            step();
        }
        return agrees;
    }

    private void step() {
        int choice = random.nextInt(100);
        if (choice < 45) {
            change();
        } else if (choice < 50) {
            script(randomScript());
        } else if (choice < 56) {
            compare(choice < 54 ? "undo" : choice < 55 ? "save" : "restore");
        } else {
            query();
        }
    }

    private void change() {
        switch (random.nextInt(16)) {
            case 0: compare("addBath"); break;
            case 1: case 2: case 3: case 4: case 5:
                compare("runTap", bath(), near(0, 2, 20), near(1, 20, 20)); break;
            case 6: compare("setPlug", bath(), random.nextInt(2)); break;
            case 7: case 8: compare("pour", bath(), bath(), random.nextBoolean() ? near(1, 99, 9) : 1 + random.nextInt(20)); break;
            case 9:
                int low = random.nextInt(60);
                compare("addDuck", bath(), near(low, low, 15), near(low, low + random.nextInt(20), 15)); break;
            case 10: case 11: case 12: compare("join", bath()); break;
            case 13: if (random.nextInt(3) == 0) compare("leave", bath()); break;
            default: compare("advance", random.nextInt(4) == 0 ? near(1, 20, 9) : 1 + random.nextInt(3)); break;
        }
    }

    private void query() {
        switch (random.nextInt(9)) {
            case 0: case 1: compare(any(QUERIES)); break;
            case 2: case 3: compare(any(BATH_QUERIES), bath()); break;
            case 4: compare(any(DUCK_QUERIES), near(0, 5, 20)); break;
            case 5: compare(any(EVENT_QUERIES), near(0, 9, 20)); break;
            case 6: compare("isWarmer", bath(), bath()); break;
            case 7: compare("heatAfter", bath(), near(0, 60, 20)); break;
            default:
                int target = random.nextBoolean() ? near(0, 99, 20) : 5 + random.nextInt(70);
                int bath = bath();
                int tap = near(0, 2, 20);
                compare("litresToReach", bath, tap, target);
                compare("litresToReachByFormula", bath, tap, target); break;
        }
    }

    private int bath() {
        return random.nextInt(25) == 0 ? (random.nextBoolean() ? -1 : 5) : random.nextInt(5);
    }

    /** From low to high, and once in so many calls just outside, or far. */
    private int near(int low, int high, int seldom) {
        if (random.nextInt(seldom) != 0) {
            return low + random.nextInt(high - low + 1);
        }
        switch (random.nextInt(4)) {
            case 0: return low - 1;
            case 1: return high + 1;
            case 2: return Integer.MIN_VALUE;
            default: return Integer.MAX_VALUE;
        }
    }

    private String any(String[] choices) {
        return choices[random.nextInt(choices.length)];
    }

    private String randomScript() {
        StringBuilder text = new StringBuilder();
        int commands = 1 + random.nextInt(random.nextInt(4) == 0 ? 12 : 4);
        for (int i = 0; i < commands; i++) {
            text.append(i == 0 ? "" : ";").append(command());
        }
        if (random.nextInt(3) == 0) {
            int place = random.nextInt(text.length() + 1);
            switch (random.nextInt(3)) {
                case 0: text.setLength(place); break;
                case 1: text.insert(place, any(ANYTHING)); break;
                default: text.replace(place, Math.min(text.length(), place + 1 + random.nextInt(2)), any(ANYTHING));
            }
        }
        return text.toString();
    }

    private String command() {
        int bath = random.nextInt(20) == 0 ? random.nextInt(10) : random.nextInt(5);
        switch (random.nextInt(9)) {
            case 0: return "bath";
            case 1: case 2: return "tap " + bath + " " + "cwh".charAt(random.nextInt(3)) + " " + (1 + random.nextInt(21));
            case 3: return "plug " + bath + " " + "+-".charAt(random.nextInt(2));
            case 4: return "pour " + bath + " " + random.nextInt(5) + " " + number(15);
            case 5: return "duck " + bath + " " + number(40) + " " + number(90);
            case 6: return "join " + bath;
            case 7: return random.nextInt(3) == 0 ? "leave " + bath : "tick";
            default: return "tick " + number(21);
        }
    }

    private String number(int bound) {
        int number = random.nextInt(bound);
        return number < 10 && random.nextBoolean() ? "0" + number : "" + number;
    }

    private void script(String text) {
        for (int i = 0; i < text.length() && agrees; i++) {
            compare("type", text.charAt(i));
        }
        if (random.nextInt(10) == 0) {
            compare("type", near(32, 126, 2));
        }
        compare("runScript");
        compare(random.nextBoolean() ? "errorPosition" : "failedCommand");
    }

    private void compare(String name, int... a) {
        if (!agrees || callsLeft <= 0) {
            return;
        }
        callsLeft--;
        String want = Check.outcome(() -> model.call(name, a));
        String got = Check.outcome(() -> Face.call(league, name, a));
        if (!got.equals(want)) {
            agrees = false;
            Check.tell(name + Arrays.toString(a) + " answered " + got + ", due is " + want + ", "
                    + callsLeft + " calls before the end");
        }
    }
}
