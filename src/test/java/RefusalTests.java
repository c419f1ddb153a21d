/** A call that is refused changes nothing: every question answers as it does of a twin that was not called. */
final class RefusalTests {
    private static final int LOWEST = Integer.MIN_VALUE;
    private static final int HIGHEST = Integer.MAX_VALUE;

    private interface Start {
        Run run();
    }

    private RefusalTests() {
    }

    static void run() {
        Check.test("a new object: refused changes change nothing", RefusalTests::changesOfNone);
        Check.test("a new object: refused questions change nothing", RefusalTests::questionsOfNone);
        Check.test("some baths: refused changes of baths change nothing", RefusalTests::bathChangesOfSome);
        Check.test("some baths: refused pourings change nothing", RefusalTests::pouringsOfSome);
        Check.test("some baths: other refused changes change nothing", RefusalTests::otherChangesOfSome);
        Check.test("some baths: refused questions about baths change nothing", RefusalTests::bathQuestionsOfSome);
        Check.test("some baths: other refused questions change nothing", RefusalTests::otherQuestionsOfSome);
        Check.test("everything full: refused changes change nothing", RefusalTests::changesOfFull);
        Check.test("everything full: refused questions change nothing", RefusalTests::questionsOfFull);
        Check.test("promise 51: a script of a wrong form changes no more than is told", RefusalTests::wrongForms);
        Check.test("promise 51: a script with a failed command changes no more than is told", RefusalTests::failures);
        Check.test("questions that are answered change nothing", RefusalTests::answeredQuestions);
    }

    /** Bath 0 is a member, bath 1 nearly full and hot, bath 2 without water; bath 3 and duck 1 are not there. */
    private static Run some() {
        return new Run().baths(3).fill(0, Run.WARM, 20).fill(1, Run.HOT, 90).does("join", 0)
                .does("addDuck", 0, 30, 50).does("advance", 1).does("renderBath", 0);
    }

    /** 5 baths, 6 ducks, 10 events, 8 changes, a snapshot, an output text, both marks of scripts. */
    private static Run fullButBuffer() {
        Run x = new Run().baths(5).fill(0, Run.WARM, 40).fill(1, Run.HOT, 20).fill(2, Run.WARM, 100)
                .does("runTap", 3, Run.COLD, 1).does("join", 0).does("join", 2).does("setPlug", 3, Run.OUT);
        for (int i = 0; i < 6; i++) {
            x.does("addDuck", i % 5, 10 * i, 10 * i + 20);
        }
        return x.does("advance", 2).does("save").does("pour", 1, 3, 5).does("advance", 1)
                .scriptRefused(Run.STATE, "tick;bath").scriptRefused(Run.ARGUMENT, "tick;?").does("renderBath", 2);
    }

    private static Run full() {
        return fullButBuffer().typed("tick;tick;tick;tick;tick;tick;tick;tick;tick;tick;tap 0 c 12");
    }

    private static void dueSame(String call, String got, String want) {
        String[] gotLines = got.split("\n");
        String[] wantLines = want.split("\n");
        Check.due("questions after " + call, gotLines.length, wantLines.length);
        for (int i = 0; i < Math.min(gotLines.length, wantLines.length); i++) {
            Check.due("after " + call + " line " + i, gotLines[i], wantLines[i]);
        }
    }

    private static void keeps(Start start, String exception, String name, int... arguments) {
        Run called = start.run();
        called.refused(exception, name, arguments);
        dueSame(name + java.util.Arrays.toString(arguments), Survey.of(called), Survey.of(start.run()));
    }

    private static void changesOfNone() {
        for (int bath : new int[] {0, -1, 1, 4, 5, LOWEST, HIGHEST}) {
            keeps(Run::new, Run.INDEX, "runTap", bath, Run.WARM, 1);
            keeps(Run::new, Run.INDEX, "setPlug", bath, Run.OUT);
            keeps(Run::new, Run.INDEX, "pour", bath, 0, 1);
            keeps(Run::new, Run.INDEX, "addDuck", bath, 0, 99);
            keeps(Run::new, Run.INDEX, "join", bath);
            keeps(Run::new, Run.INDEX, "leave", bath);
        }
        keeps(Run::new, Run.ARGUMENT, "advance", 0);
        keeps(Run::new, Run.ARGUMENT, "advance", 21);
        keeps(Run::new, Run.ARGUMENT, "type", 31);
        keeps(Run::new, Run.ELEMENT, "undo");
        keeps(Run::new, Run.STATE, "restore");
    }

    private static void questionsOfNone() {
        String[] ofBath = {"volume", "heat", "temperature", "exactTemperature", "isPlugged", "isMember",
            "ticksUntilDefection", "renderBath", "observedBath", "lowerBound", "upperBound", "isContent", "quacks",
            "outputAt"};
        for (String name : ofBath) {
            keeps(Run::new, Run.INDEX, name, 0);
        }
        keeps(Run::new, Run.INDEX, "isWarmer", 0, 0);
        keeps(Run::new, Run.INDEX, "litresToReach", 0, 0, 0);
        keeps(Run::new, Run.INDEX, "litresToReachByFormula", 0, 0, 0);
        keeps(Run::new, Run.INDEX, "heatAfter", 0, 0);
        for (String name : new String[] {"bathByTemperature", "duckByQuacks", "eventKind", "eventBath", "eventLitres"}) {
            keeps(Run::new, Run.ELEMENT, name, 0);
        }
        for (String name : new String[] {"warmestMember", "coldestMember", "sharedHeat", "errorPosition",
            "failedCommand"}) {
            keeps(Run::new, Run.ELEMENT, name);
        }
        keeps(Run::new, Run.ARITHMETIC, "contentShare");
    }

    private static void bathChangesOfSome() {
        for (int bath : new int[] {-1, 3, 4, 5, LOWEST, HIGHEST}) {
            keeps(RefusalTests::some, Run.INDEX, "runTap", bath, Run.WARM, 1);
            keeps(RefusalTests::some, Run.INDEX, "setPlug", bath, Run.OUT);
            keeps(RefusalTests::some, Run.INDEX, "addDuck", bath, 0, 99);
            keeps(RefusalTests::some, Run.INDEX, "join", bath);
            keeps(RefusalTests::some, Run.INDEX, "leave", bath);
        }
        for (int wrong : new int[] {-1, 3, LOWEST, HIGHEST}) {
            keeps(RefusalTests::some, Run.ARGUMENT, "runTap", 0, wrong, 1);
        }
        for (int wrong : new int[] {-1, 0, 21, LOWEST, HIGHEST}) {
            keeps(RefusalTests::some, Run.ARGUMENT, "runTap", 0, Run.COLD, wrong);
        }
        keeps(RefusalTests::some, Run.UNSUPPORTED, "runTap", 1, Run.COLD, 11);
        keeps(RefusalTests::some, Run.UNSUPPORTED, "runTap", 1, Run.COLD, 20);
    }

    private static void pouringsOfSome() {
        for (int bath : new int[] {-1, 3, 5, LOWEST, HIGHEST}) {
            keeps(RefusalTests::some, Run.INDEX, "pour", bath, 0, 1);
            keeps(RefusalTests::some, Run.INDEX, "pour", 0, bath, 1);
        }
        keeps(RefusalTests::some, Run.ARGUMENT, "pour", 0, 0, 1);
        for (int wrong : new int[] {-1, 0, 100, LOWEST, HIGHEST}) {
            keeps(RefusalTests::some, Run.ARGUMENT, "pour", 0, 2, wrong);
        }
        keeps(RefusalTests::some, Run.ELEMENT, "pour", 0, 2, 21);
        keeps(RefusalTests::some, Run.ELEMENT, "pour", 2, 0, 1);
        keeps(RefusalTests::some, Run.UNSUPPORTED, "pour", 0, 1, 11);
    }

    private static void otherChangesOfSome() {
        keeps(RefusalTests::some, Run.ARGUMENT, "addDuck", 0, -1, 5);
        keeps(RefusalTests::some, Run.ARGUMENT, "addDuck", 0, 5, 100);
        keeps(RefusalTests::some, Run.ARGUMENT, "addDuck", 0, 6, 5);
        keeps(RefusalTests::some, Run.STATE, "join", 0);
        keeps(RefusalTests::some, Run.UNSUPPORTED, "join", 1);
        keeps(RefusalTests::some, Run.UNSUPPORTED, "join", 2);
        keeps(RefusalTests::some, Run.STATE, "leave", 1);
        for (int wrong : new int[] {-1, 0, 21, LOWEST, HIGHEST}) {
            keeps(RefusalTests::some, Run.ARGUMENT, "advance", wrong);
        }
        keeps(RefusalTests::some, Run.ARGUMENT, "type", 127);
        keeps(RefusalTests::some, Run.STATE, "restore");
    }

    private static void bathQuestionsOfSome() {
        for (String name : new String[] {"volume", "heat", "temperature", "exactTemperature", "isPlugged", "isMember",
            "ticksUntilDefection", "renderBath"}) {
            keeps(RefusalTests::some, Run.INDEX, name, -1);
            keeps(RefusalTests::some, Run.INDEX, name, 3);
        }
        keeps(RefusalTests::some, Run.ELEMENT, "temperature", 2);
        keeps(RefusalTests::some, Run.ELEMENT, "exactTemperature", 2);
        keeps(RefusalTests::some, Run.INDEX, "isWarmer", 0, 3);
        keeps(RefusalTests::some, Run.ELEMENT, "isWarmer", 0, 2);
        keeps(RefusalTests::some, Run.ELEMENT, "bathByTemperature", 3);
        for (String name : new String[] {"litresToReach", "litresToReachByFormula"}) {
            keeps(RefusalTests::some, Run.INDEX, name, 3, 0, 0);
            keeps(RefusalTests::some, Run.ARGUMENT, name, 0, 3, 50);
            keeps(RefusalTests::some, Run.ARGUMENT, name, 0, 0, 100);
            keeps(RefusalTests::some, Run.ELEMENT, name, 2, 0, 50);
            keeps(RefusalTests::some, Run.UNSUPPORTED, name, 0, Run.WARM, 50);
        }
    }

    private static void otherQuestionsOfSome() {
        keeps(RefusalTests::some, Run.ELEMENT, "sharedHeat");
        keeps(RefusalTests::some, Run.STATE, "ticksUntilDefection", 1);
        keeps(RefusalTests::some, Run.INDEX, "heatAfter", 3, 1);
        keeps(RefusalTests::some, Run.ARGUMENT, "heatAfter", 0, 61);
        for (String name : new String[] {"observedBath", "lowerBound", "upperBound", "isContent", "quacks"}) {
            keeps(RefusalTests::some, Run.INDEX, name, 1);
        }
        keeps(RefusalTests::some, Run.ELEMENT, "duckByQuacks", 1);
        keeps(RefusalTests::some, Run.ELEMENT, "eventKind", 7);
        keeps(RefusalTests::some, Run.ELEMENT, "eventBath", 7);
        keeps(RefusalTests::some, Run.ELEMENT, "eventLitres", 7);
        keeps(RefusalTests::some, Run.ELEMENT, "eventLitres", 0);
        keeps(RefusalTests::some, Run.INDEX, "outputAt", 10);
        keeps(RefusalTests::some, Run.ELEMENT, "errorPosition");
        keeps(RefusalTests::some, Run.ELEMENT, "failedCommand");
    }

    private static void changesOfFull() {
        keeps(RefusalTests::full, Run.STATE, "addBath");
        keeps(RefusalTests::full, Run.INDEX, "runTap", 5, Run.WARM, 1);
        keeps(RefusalTests::full, Run.UNSUPPORTED, "runTap", 2, Run.WARM, 1);
        keeps(RefusalTests::full, Run.INDEX, "setPlug", 5, Run.OUT);
        keeps(RefusalTests::full, Run.INDEX, "pour", 0, 5, 1);
        keeps(RefusalTests::full, Run.UNSUPPORTED, "pour", 0, 2, 1);
        keeps(RefusalTests::full, Run.STATE, "addDuck", 0, 0, 99);
        keeps(RefusalTests::full, Run.INDEX, "addDuck", 5, 0, 99);
        keeps(RefusalTests::full, Run.INDEX, "join", 5);
        keeps(RefusalTests::full, Run.STATE, "join", 2);
        keeps(RefusalTests::full, Run.INDEX, "leave", 5);
        keeps(RefusalTests::full, Run.STATE, "leave", 4);
        keeps(RefusalTests::full, Run.ARGUMENT, "advance", 21);
        keeps(RefusalTests::full, Run.STATE, "type", 'x');
        keeps(RefusalTests::full, Run.ARGUMENT, "type", 127);
    }

    private static void questionsOfFull() {
        for (String name : new String[] {"volume", "heat", "temperature", "exactTemperature", "isPlugged", "isMember",
            "ticksUntilDefection", "renderBath"}) {
            keeps(RefusalTests::full, Run.INDEX, name, 5);
        }
        for (String name : new String[] {"observedBath", "lowerBound", "upperBound", "isContent", "quacks"}) {
            keeps(RefusalTests::full, Run.INDEX, name, 6);
        }
        keeps(RefusalTests::full, Run.ELEMENT, "bathByTemperature", 5);
        keeps(RefusalTests::full, Run.ELEMENT, "duckByQuacks", 6);
        keeps(RefusalTests::full, Run.ELEMENT, "eventKind", 10);
        keeps(RefusalTests::full, Run.ELEMENT, "eventBath", 10);
        keeps(RefusalTests::full, Run.ELEMENT, "eventLitres", 10);
        keeps(RefusalTests::full, Run.INDEX, "outputAt", 11);
    }

    /** The buffer is empty and one mark is new; all else is as in a twin in which nothing was typed. */
    private static void keepsButMarks(Start start, String exception, String script) {
        Run called = start.run().scriptRefused(exception, script);
        Run twin = start.run();
        dueSame("'" + script + "'", Survey.state(called) + Survey.past(called), Survey.state(twin) + Survey.past(twin));
    }

    private static void wrongForms() {
        for (String script : new String[] {"", "x", "bath;", "tick 5;tap 0 w 1;setPlug", "tick 5;tick 123"}) {
            keepsButMarks(Run::new, Run.ARGUMENT, script);
            keepsButMarks(RefusalTests::some, Run.ARGUMENT, script);
            keepsButMarks(RefusalTests::fullButBuffer, Run.ARGUMENT, script);
        }
        new Run().does("addBath").does("renderBath", 0).scriptRefused(Run.STATE, "bath;join 1")
                .scriptRefused(Run.ARGUMENT, "x").due(1, "failedCommand").due('0', "outputAt", 0);
    }

    private static void failures() {
        String[] ofSome = {"bath;tap 3 w 5;join 3;join 3", "tap 0 h 5;tap 1 c 11", "plug 0 -;plug 3 +",
            "pour 0 2 5;pour 0 2 16", "duck 2 0 9;duck 2 9 8", "leave 0;leave 0", "tick 20;tick 21", "tick;tick 0"};
        for (String script : ofSome) {
            keepsButMarks(RefusalTests::some, Run.STATE, script);
        }
        for (String script : new String[] {"tick;bath", "tick 20;duck 0 0 99", "leave 0;tap 2 w 1", "pour 0 4 1;join 4;join 4"}) {
            keepsButMarks(RefusalTests::fullButBuffer, Run.STATE, script);
        }
        keepsButMarks(Run::new, Run.STATE, "bath;bath;bath;bath;bath;bath");
        new Run().does("addBath").does("renderBath", 0).scriptRefused(Run.ARGUMENT, "bath;x")
                .scriptRefused(Run.STATE, "join 0").due(5, "errorPosition").due('0', "outputAt", 0);
    }

    private static void answeredQuestions() {
        for (Start start : new Start[] {Run::new, RefusalTests::some, RefusalTests::fullButBuffer}) {
            Run asked = start.run();
            String first = Survey.state(asked) + Survey.texts(asked);
            dueSame("all questions", Survey.state(asked) + Survey.texts(asked), first);
            dueSame("all questions, twice", Survey.past(asked), Survey.past(start.run()));
        }
    }
}
