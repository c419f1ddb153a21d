/** Promises 48 to 53 at their edges: a test for each sentence that names one. */
final class ScriptEdgeTests {
    private static final int LOWEST = Integer.MIN_VALUE;
    private static final int HIGHEST = Integer.MAX_VALUE;
    /** 59 signs. */
    private static final String TWELVE_TICKS = "tick;tick;tick;tick;tick;tick;tick;tick;tick;tick;tick;tick";
    /** 60 signs. */
    private static final String FULL = "tick;tick;tick;tick;tick;tick;tick;tick;tick;tick;tap 0 c 12";

    private ScriptEdgeTests() {
    }

    static void run() {
        renderBath();
        outputAt();
        type();
        runScript();
        takesEffect();
        forms();
        errorPosition();
        failedCommand();
    }

    private static void output(Run x, int bath, String want) {
        x.due(want.length(), "renderBath", bath);
        for (int i = 0; i < want.length(); i++) {
            x.due(want.charAt(i), "outputAt", i);
        }
        x.refused(Run.INDEX, "outputAt", want.length());
    }

    private static void renderBath() {
        Check.test("promise 48: the first and the last bath, and none beside them", () -> new Run().baths(3)
                .due(5, "renderBath", 0).due(5, "renderBath", 2).refused(Run.INDEX, "renderBath", -1)
                .refused(Run.INDEX, "renderBath", 3).refused(Run.INDEX, "renderBath", LOWEST)
                .refused(Run.INDEX, "renderBath", HIGHEST).due('2', "outputAt", 0));
        Check.test("promise 48: bath 4 of 5, and not 5", () -> new Run().refused(Run.INDEX, "renderBath", 0).baths(5)
                .due(5, "renderBath", 4).refused(Run.INDEX, "renderBath", 5));
        Check.test("promise 48: without water no temperature", () -> output(new Run().baths(1), 0, "0:0l+"));
        Check.test("promise 48: one litre, cut to 29 degrees of more", () -> {
            output(new Run().baths(1).fill(0, Run.HOT, 1), 0, "0:1l70C+");
            output(new Run().baths(1).fill(0, Run.COLD, 33).fill(0, Run.WARM, 65), 0, "0:98l29C+");
        });
        Check.test("promise 48: 100 litres of a member without its plug, the longest text", () -> output(new Run()
                .baths(5).fill(4, Run.WARM, 100).does("join", 4).does("setPlug", 4, Run.OUT), 4, "4:100l40C-*"));
        Check.test("promise 48: a member without water", () -> output(new Run().baths(2).fill(0, Run.WARM, 1)
                .does("join", 0).does("pour", 0, 1, 1), 0, "0:0l+*"));
        Check.test("promise 48: the example", () -> output(new Run().baths(1).fill(0, Run.WARM, 35)
                .fill(0, Run.COLD, 4).does("runTap", 0, Run.WARM, 1).does("join", 0), 0, "0:40l37C+*"));
        Check.test("promise 48: a shorter text replaces a longer one wholly", () -> {
            Run x = new Run().baths(2).fill(0, Run.WARM, 100).due(9 + 1, "renderBath", 0);
            output(x, 1, "1:0l+");
        });
        Check.test("promise 48: the text stays as the bath was", () -> new Run().baths(1).due(5, "renderBath", 0)
                .fill(0, Run.HOT, 20).due('0', "outputAt", 2).due('+', "outputAt", 4)
                .refused(Run.INDEX, "outputAt", 5));
    }

    private static void outputAt() {
        Check.test("promise 49: empty at first", () -> new Run().refused(Run.INDEX, "outputAt", 0).baths(1)
                .refused(Run.INDEX, "outputAt", 0).refused(Run.INDEX, "renderBath", 1)
                .refused(Run.INDEX, "outputAt", 0));
        Check.test("promise 49: from 0 to the length less 1", () -> new Run().baths(1).due(5, "renderBath", 0)
                .due('0', "outputAt", 0).due('+', "outputAt", 4).refused(Run.INDEX, "outputAt", -1)
                .refused(Run.INDEX, "outputAt", 5).refused(Run.INDEX, "outputAt", LOWEST)
                .refused(Run.INDEX, "outputAt", HIGHEST));
        Check.test("promise 49: undo, restore and scripts leave the text", () -> new Run().does("save").baths(1)
                .due(5, "renderBath", 0).does("undo").due('0', "outputAt", 0).does("restore").due('+', "outputAt", 4)
                .scriptDue(1, "bath").due(':', "outputAt", 1));
    }

    private static void type() {
        Check.test("promise 50: from 32 to 126", () -> new Run().due(1, "type", 32).due(2, "type", 126)
                .refused(Run.ARGUMENT, "type", 31).refused(Run.ARGUMENT, "type", 127).refused(Run.ARGUMENT, "type", 0)
                .refused(Run.ARGUMENT, "type", 255).refused(Run.ARGUMENT, "type", 65535).due(3, "type", 'x'));
        Check.test("promise 50: the sixtieth sign is the last", () -> new Run().typed(FULL.substring(1))
                .due(60, "type", 'x').refused(Run.STATE, "type", 'x').refused(Run.STATE, "type", ' '));
        Check.test("promise 50: a wrong sign comes before a full buffer", () -> new Run().typed(FULL)
                .refused(Run.ARGUMENT, "type", 31).refused(Run.ARGUMENT, "type", 127).refused(Run.STATE, "type", 'x'));
        Check.test("promise 50: after runScript there is room for 60 again", () -> new Run().typed(FULL)
                .refused(Run.STATE, "runScript").typed(FULL).refused(Run.STATE, "type", 'x'));
        Check.test("promise 50: undo, restore and other changes leave the buffer", () -> new Run().does("save").baths(1)
                .due(1, "type", 't').does("undo").due(2, "type", 'i').does("restore").due(3, "type", 'c').baths(1)
                .due(4, "type", 'k').due(1, "runScript").due(1, "time"));
    }

    private static void runScript() {
        Check.test("promise 51: one command, and 12", () -> new Run().scriptDue(1, "tick").due(1, "time")
                .scriptDue(12, TWELVE_TICKS).due(13, "time"));
        Check.test("promise 51: 60 signs", () -> new Run().baths(1).scriptDue(11, FULL).due(10, "time")
                .due(12, "volume", 0));
        Check.test("promise 51: an empty script has a wrong form", () -> new Run().refused(Run.ARGUMENT, "runScript")
                .due(0, "errorPosition").refused(Run.ELEMENT, "failedCommand"));
        Check.test("promise 51: the buffer is empty after a script", () -> new Run().scriptDue(1, "bath")
                .due(1, "type", 'b').refused(Run.ARGUMENT, "runScript"));
        Check.test("promise 51: the buffer is empty after a wrong form", () -> new Run().scriptRefused(Run.ARGUMENT, "?")
                .due(1, "type", 'b').refused(Run.ARGUMENT, "runScript").refused(Run.ARGUMENT, "runScript")
                .due(0, "errorPosition"));
        Check.test("promise 51: the buffer is empty after a failed command", () -> new Run()
                .scriptRefused(Run.STATE, "join 0").refused(Run.ARGUMENT, "runScript").due(0, "errorPosition"));
        Check.test("promise 51: tick without a number is 1 tick, with one from 1 to 20", () -> new Run()
                .scriptDue(1, "tick").due(1, "time").scriptDue(1, "tick 1").due(2, "time").scriptDue(1, "tick 20")
                .due(22, "time").scriptRefused(Run.STATE, "tick 0").scriptRefused(Run.STATE, "tick 21")
                .scriptRefused(Run.STATE, "tick 00").scriptRefused(Run.STATE, "tick 99").due(22, "time"));
        Check.test("promise 51: c, w and h are 0, 1 and 2", () -> new Run().baths(3)
                .scriptDue(3, "tap 0 c 1;tap 1 w 1;tap 2 h 1").due(10, "heat", 0).due(40, "heat", 1)
                .due(70, "heat", 2));
        Check.test("promise 51: + is in, - is out", () -> new Run().baths(2).scriptDue(3, "plug 0 -;plug 1 -;plug 1 +")
                .due(false, "isPlugged", 0).due(true, "isPlugged", 1));
        Check.test("promise 51: numbers of one digit and of two", () -> new Run().baths(1).scriptDue(1, "tap 0 c 1")
                .due(1, "volume", 0).scriptDue(1, "tap 0 c 01").due(2, "volume", 0).scriptDue(1, "tap 0 c 20")
                .due(22, "volume", 0).scriptDue(1, "duck 0 0 99").due(99, "upperBound", 0)
                .scriptDue(1, "duck 0 00 00").due(0, "upperBound", 1));
        Check.test("promise 51: the arguments in their order", () -> new Run().baths(2)
                .scriptDue(2, "tap 0 w 9;pour 0 1 4").due(5, "volume", 0).due(4, "volume", 1)
                .scriptDue(1, "duck 1 2 3").due(1, "observedBath", 0).due(2, "lowerBound", 0).due(3, "upperBound", 0)
                .scriptDue(1, "join 1").due(true, "isMember", 1).due(false, "isMember", 0).scriptDue(1, "leave 1")
                .due(false, "isMember", 1));
    }

    private static void takesEffect() {
        Check.test("promise 51: the fifth bath, and no sixth", () -> new Run()
                .scriptRefused(Run.STATE, "bath;bath;bath;bath;bath;bath").due(5, "failedCommand").due(0, "bathCount")
                .scriptDue(5, "bath;bath;bath;bath;bath").due(5, "bathCount"));
        Check.test("promise 51: the sixth duck, and no seventh", () -> new Run().baths(1)
                .scriptDue(5, "duck 0 0 9;duck 0 0 9;duck 0 0 9;duck 0 0 9;duck 0 0 9")
                .scriptRefused(Run.STATE, "duck 0 0 9;duck 0 0 9").due(1, "failedCommand").due(5, "duckCount")
                .scriptDue(1, "duck 0 0 9").due(6, "duckCount"));
        Check.test("promise 51: commands see what those before them did", () -> new Run()
                .scriptDue(6, "bath;tap 0 w 1;join 0;duck 0 1 2;leave 0;bath").due(2, "bathCount").due(1, "duckCount"));
        Check.test("promise 51: a failed last command takes all others back", () -> new Run().baths(1)
                .scriptRefused(Run.STATE, "bath;tap 0 w 9;join 0;plug 0 -;duck 0 1 2;tick 2;tap 2 c 1")
                .due(6, "failedCommand").due(1, "bathCount").due(0, "volume", 0).due(false, "isMember", 0)
                .due(true, "isPlugged", 0).due(0, "duckCount").due(0, "time").due(0, "eventCount")
                .due(0, "tappedLitres"));
        Check.test("promise 51: what follows a failed command is not done", () -> new Run().baths(1)
                .scriptRefused(Run.STATE, "join 0;tap 0 w 9;bath").due(0, "failedCommand").due(1, "bathCount")
                .due(0, "volume", 0));
        Check.test("promise 51: a wrong form comes before a failed command", () -> new Run()
                .scriptRefused(Run.ARGUMENT, "join 0;x").due(7, "errorPosition")
                .refused(Run.ELEMENT, "failedCommand"));
        Check.test("promise 51: a wrong form takes no command", () -> new Run().scriptRefused(Run.ARGUMENT, "bath;bath;")
                .due(0, "bathCount").refused(Run.ELEMENT, "undo"));
        fails("no such bath", "tap 1 c 1", "plug 1 +", "pour 0 1 1", "pour 1 0 1", "duck 1 0 9", "join 1", "leave 1",
                "tap 9 c 1", "join 9");
        fails("wrong arguments", "tap 0 c 0", "tap 0 c 21", "pour 0 0 1", "duck 0 2 1", "tick 0", "tick 21");
        fails("a state that does not allow it", "leave 0", "join 0");
        Check.test("promise 51: fails: too few litres, and too many", () -> new Run().baths(2).fill(0, Run.WARM, 5)
                .fill(1, Run.WARM, 96).scriptRefused(Run.STATE, "pour 0 1 6").scriptRefused(Run.STATE, "pour 0 1 5")
                .scriptRefused(Run.STATE, "pour 0 1 0").scriptRefused(Run.STATE, "tap 1 w 5")
                .scriptDue(2, "pour 0 1 3;tap 1 w 1").due(100, "volume", 1));
    }

    private static void fails(String what, String... scripts) {
        for (String script : scripts) {
            Check.test("promise 51: fails, " + what + ": " + script, () -> new Run().baths(1)
                    .scriptRefused(Run.STATE, script).due(0, "failedCommand").refused(Run.ELEMENT, "errorPosition")
                    .due(0, "eventCount").due(0, "time").due(0, "duckCount").due(0, "undo"));
        }
    }

    /** Whatever the commands then do: their form is right, so no error position is there. */
    private static void forms() {
        for (String script : new String[] {"bath", "tap 0 c 0", "tap 9 h 99", "tap 5 w 7", "plug 0 +", "plug 9 -",
            "pour 0 0 0", "pour 9 9 99", "duck 0 0 0", "duck 9 99 99", "duck 4 5 67", "duck 4 56 7", "join 0", "join 9",
            "leave 0", "leave 9", "tick", "tick 0", "tick 9", "tick 10", "tick 99"}) {
            Check.test("promise 51: the form of " + script, () -> {
                Run x = new Run().typed(script);
                Check.due("refused for its form", x.ask("runScript").equals("throws " + Run.ARGUMENT), false);
                x.refused(Run.ELEMENT, "errorPosition").typed(script + ";" + script);
                Check.due("refused for its form", x.ask("runScript").equals("throws " + Run.ARGUMENT), false);
                x.refused(Run.ELEMENT, "errorPosition");
            });
        }
    }

    private static void wrong(String script, int position) {
        Check.test("promise 52: '" + script + "'", () -> new Run().scriptRefused(Run.ARGUMENT, script)
                .due(position, "errorPosition"));
    }

    private static void errorPosition() {
        Check.test("promise 52: none at first, after a script, or after a failed command", () -> new Run()
                .refused(Run.ELEMENT, "errorPosition").scriptDue(1, "bath").refused(Run.ELEMENT, "errorPosition")
                .scriptRefused(Run.STATE, "join 0").refused(Run.ELEMENT, "errorPosition"));
        Check.test("promise 52: the latest wrong form counts, whatever comes after", () -> new Run()
                .scriptRefused(Run.ARGUMENT, "bath;").due(5, "errorPosition").scriptRefused(Run.ARGUMENT, "x")
                .due(0, "errorPosition").scriptRefused(Run.ARGUMENT, "tick x").due(5, "errorPosition")
                .scriptDue(1, "bath").scriptRefused(Run.STATE, "join 0").due(5, "errorPosition").does("undo")
                .due(5, "errorPosition").does("save").does("restore").due(5, "errorPosition"));
        wrong("", 0);
        wrong("x", 0);
        wrong(";", 0);
        wrong(" ", 0);
        wrong("BATH", 0);
        wrong("b", 1);
        wrong("bath;", 5);
        wrong("bath;;", 5);
        wrong("bathx", 4);
        wrong("baths;x", 4);
        wrong("x;bath", 0);
        wrong("tap 00 c 1", 5);
        wrong("tap 0 c 1x", 9);
        wrong("tap 0 c 100", 10);
        wrong("tap 0 c ", 8);
        wrong("tap 0 C 1", 6);
        wrong("tap  0 c 1", 4);
        wrong("tick 100", 7);
        wrong("tick -1", 5);
        wrong("tick  1", 5);
        wrong("tick 1 ", 6);
        wrong("duck 0 100 1", 9);
        wrong("duck 0 1 100", 11);
        wrong("pour 0 1 100", 11);
        wrong("pour 0 10 1", 8);
        wrong("plug 0 ", 7);
        wrong("plug 0 0", 7);
        wrong("plug 0 +1", 8);
        wrong("join 10", 6);
        wrong("leave 10", 7);
        wrong("join a", 5);
        wrong("join /", 5);
        wrong("join :", 5);
        wrong(TWELVE_TICKS + ";", 60);
        wrong(TWELVE_TICKS + "x", 59);
        wrong(TWELVE_TICKS + " ", 60);
        wrong(FULL.substring(0, 59) + "x", 59);
        wrong("bath;bath;bath;bath;bath;bath;bath;bath;bath;bath;bath;pour ", 60);
    }

    private static void failedCommand() {
        Check.test("promise 53: none at first, after a script, or after a wrong form", () -> new Run()
                .refused(Run.ELEMENT, "failedCommand").scriptDue(1, "bath").refused(Run.ELEMENT, "failedCommand")
                .scriptRefused(Run.ARGUMENT, "join").refused(Run.ELEMENT, "failedCommand"));
        Check.test("promise 53: the first command is 0", () -> new Run().scriptRefused(Run.STATE, "join 0;tick")
                .due(0, "failedCommand"));
        Check.test("promise 53: the twelfth command is 11", () -> new Run().baths(5)
                .scriptRefused(Run.STATE, TWELVE_TICKS.substring(0, 55) + "bath").due(11, "failedCommand")
                .due(0, "time"));
        Check.test("promise 53: the first of several that would fail", () -> new Run()
                .scriptRefused(Run.STATE, "tick;join 1;join 2").due(1, "failedCommand"));
        Check.test("promise 53: the latest failure counts, whatever comes after", () -> new Run()
                .scriptRefused(Run.STATE, "bath;bath;join 0").due(2, "failedCommand")
                .scriptRefused(Run.STATE, "bath;join 0").due(1, "failedCommand").scriptDue(1, "bath")
                .scriptRefused(Run.ARGUMENT, "x").due(1, "failedCommand").does("undo").due(1, "failedCommand")
                .does("save").does("restore").due(1, "failedCommand"));
    }
}
