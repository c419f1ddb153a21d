import java.util.NoSuchElementException;

/** Promises 48 to 53: output and scripts. */
final class ScriptTests {
    private static final Class<IndexOutOfBoundsException> INDEX = IndexOutOfBoundsException.class;
    private static final Class<IllegalArgumentException> ARGUMENT = IllegalArgumentException.class;
    private static final Class<IllegalStateException> STATE = IllegalStateException.class;
    private static final Class<NoSuchElementException> ELEMENT = NoSuchElementException.class;

    private ScriptTests() {
    }

    static void run() {
        Check.test("promise 48: renderBath", ScriptTests::renderBath);
        Check.test("promise 49: outputAt", ScriptTests::outputAt);
        Check.test("promise 50: type", ScriptTests::type);
        Check.test("promise 51: each command", ScriptTests::commands);
        Check.test("promise 51: the numbers and digits of commands", ScriptTests::numbers);
        Check.test("promise 51: the buffer is empty afterwards", ScriptTests::emptyAfterwards);
        Check.test("promise 51: all commands or none", ScriptTests::allOrNone);
        Check.test("promise 51: ducks in scripts", ScriptTests::ducksInScripts);
        Check.test("promise 51: a full buffer of commands", ScriptTests::fullBuffer);
        Check.test("promise 52: errorPosition", ScriptTests::errorPosition);
        Check.test("promise 52: errorPosition of every prefix and every wrong sign", ScriptTests::everyErrorPosition);
        Check.test("promise 53: failedCommand", ScriptTests::failedCommand);
    }

    private static void renderBath() {
        BathLeague x = Leagues.withBaths(5);
        Check.due("its length", x.renderBath(0), 5);
        Check.due("without water", Leagues.rendered(x, 0), "0:0l+");
        x.setPlug(4, false);
        Check.due("without its plug", Leagues.rendered(x, 4), "4:0l-");
        Leagues.fill(x, 1, Leagues.WARM, 100);
        x.join(1);
        Check.due("a member", Leagues.rendered(x, 1), "1:100l40C+*");
        x.setPlug(1, false);
        Check.due("a member without its plug", Leagues.rendered(x, 1), "1:100l40C-*");
        x.runTap(2, Leagues.COLD, 9);
        Check.due("no member", Leagues.rendered(x, 2), "2:9l10C+");
        x.runTap(3, Leagues.WARM, 5);
        x.join(3);
        x.pour(3, 2, 5);
        Check.due("a member without water", Leagues.rendered(x, 3), "3:0l+*");
        Check.due("rounded", Leagues.rendered(x, 2), "2:14l20C+");
        Check.refused("bath 5", INDEX, () -> x.renderBath(5));
        Check.refused("bath -1", INDEX, () -> x.renderBath(-1));
        Check.due("the output is still there", Leagues.output(x, 9), "2:14l20C+");
    }

    private static void outputAt() {
        BathLeague x = Leagues.withBaths(2);
        Check.refused("outputAt(0) of none", INDEX, () -> x.outputAt(0));
        x.runTap(1, Leagues.WARM, 10);
        x.renderBath(1);
        Check.due("outputAt(0)", x.outputAt(0), '1');
        Check.due("outputAt(7)", x.outputAt(7), 'C');
        Check.due("outputAt(8)", x.outputAt(8), '+');
        Check.refused("outputAt(9)", INDEX, () -> x.outputAt(9));
        Check.refused("outputAt(-1)", INDEX, () -> x.outputAt(-1));
        x.renderBath(0);
        Check.due("outputAt(4) of a shorter text", x.outputAt(4), '+');
        Check.refused("outputAt(5) of a shorter text", INDEX, () -> x.outputAt(5));
        x.undo();
        x.undo();
        Check.due("undo leaves it", x.outputAt(0), '0');
    }

    private static void type() {
        BathLeague x = new BathLeague();
        Check.refused("31", ARGUMENT, () -> x.type((char) 31));
        Check.refused("127", ARGUMENT, () -> x.type((char) 127));
        Check.refused("0", ARGUMENT, () -> x.type((char) 0));
        Check.refused("65535", ARGUMENT, () -> x.type((char) 65535));
        Check.due("32", x.type(' '), 1);
        Check.due("126", x.type('~'), 2);
        for (int i = 3; i <= 60; i++) {
            Check.due("type", x.type('t'), i);
        }
        Check.refused("the 61st", STATE, () -> x.type('t'));
        Check.refused("the 61st, and a wrong one", ARGUMENT, () -> x.type((char) 127));
        Check.refused("runScript", ARGUMENT, x::runScript);
        Check.due("the first character was wrong", x.errorPosition(), 0);
        Check.due("type", x.type('b'), 1);
    }

    private static void commands() {
        BathLeague x = new BathLeague();
        Check.due("bath", Leagues.run(x, "bath;bath"), "2");
        Check.due("bathCount", x.bathCount(), 2);
        Check.due("tap", Leagues.run(x, "tap 0 c 1;tap 0 w 2;tap 1 h 3"), "3");
        Check.due("heat of the first", x.heat(0), 90);
        Check.due("heat of the second", x.heat(1), 210);
        Check.due("plug", Leagues.run(x, "plug 0 -;plug 1 -;plug 1 +"), "3");
        Check.due("isPlugged", x.isPlugged(0), false);
        Check.due("isPlugged", x.isPlugged(1), true);
        Check.due("pour", Leagues.run(x, "pour 1 0 2"), "1");
        Check.due("heat after pour", x.heat(0), 230);
        Check.due("duck", Leagues.run(x, "duck 1 40 70"), "1");
        Check.due("its bath and bounds", x.observedBath(0) + "/" + x.lowerBound(0) + "-" + x.upperBound(0), "1/40-70");
        Check.due("tap and join", Leagues.run(x, "tap 0 c 1;join 0"), "2");
        Check.due("isMember", x.isMember(0), true);
        Check.due("leave", Leagues.run(x, "leave 0"), "1");
        Check.due("isMember", x.isMember(0), false);
        Check.due("tick", Leagues.run(x, "tick"), "1");
        Check.due("time", x.time(), 1);
        Check.due("ticks", Leagues.run(x, "tick 7;tick"), "2");
        Check.due("time", x.time(), 9);
    }

    private static void numbers() {
        BathLeague x = Leagues.withBaths(2);
        Check.due("02", Leagues.run(x, "tap 0 c 02"), "1");
        Check.due("volume", x.volume(0), 2);
        Check.due("20", Leagues.run(x, "tap 0 c 20"), "1");
        Check.due("volume", x.volume(0), 22);
        Check.due("duck 0 0 99", Leagues.run(x, "duck 0 0 99"), "1");
        Check.due("tick 20", Leagues.run(x, "tick 20"), "1");
        Check.due("time", x.time(), 20);
        for (String script : new String[] {"tap 0 c 0", "tap 0 c 00", "tap 0 c 21", "tick 0", "tick 21", "tick 99",
            "duck 0 2 1", "pour 0 0 1", "pour 0 1 0", "pour 0 1 23", "join 9", "leave 9", "plug 2 +", "tap 2 c 1",
            "pour 2 0 1", "pour 0 2 1", "duck 2 0 1", "join 1", "leave 1"}) {
            Check.due(script, Leagues.run(x, script), "throws IllegalStateException");
            Check.due("failedCommand", x.failedCommand(), 0);
        }
    }

    private static void emptyAfterwards() {
        BathLeague x = new BathLeague();
        Check.due("a script", Leagues.run(x, "bath"), "1");
        Check.due("type", x.type('b'), 1);
        Check.refused("a wrong form", ARGUMENT, x::runScript);
        Check.due("errorPosition", x.errorPosition(), 1);
        Check.due("type", x.type('j'), 1);
        Leagues.type(x, "oin 4");
        Check.refused("a failing command", STATE, x::runScript);
        Check.due("type", x.type('b'), 1);
        x.runTap(0, Leagues.WARM, 1);
        x.save();
        x.undo();
        x.restore();
        Check.due("undo and restore leave the buffer", x.type('a'), 2);
    }

    private static void allOrNone() {
        BathLeague x = Leagues.withWarmMembers(10, 5);
        x.addDuck(0, 39, 41);
        x.addDuck(1, 39, 41);
        x.save();
        String before = Leagues.stateOf(x);
        Check.due("failing at the end",
                Leagues.run(x, "bath;tap 0 h 9;pour 0 1 9;leave 1;plug 0 -;tick 9;join 9"),
                "throws IllegalStateException");
        Check.due("failedCommand", x.failedCommand(), 6);
        Check.due("the state", Leagues.stateOf(x), before);
        Check.due("failing behind a duck and a join", Leagues.run(x, "bath;tap 2 w 1;join 2;duck 2 0 1;advance"),
                "throws IllegalArgumentException");
        Check.due("failing behind a duck and a join", Leagues.run(x, "bath;tap 2 w 1;join 2;duck 2 0 1;tick 0"),
                "throws IllegalStateException");
        Check.due("the state", Leagues.stateOf(x), before);
        Check.due("nothing new to undo: 8 changes were made", x.undo(), 7);
        x.restore();
        Check.due("commands use what is before them", Leagues.run(x, "bath;tap 2 w 9;join 2;leave 2"), "4");
        Check.due("volume", x.volume(2), 9);
        Check.due("one change", x.undo(), 0);
        Check.due("the state", Leagues.stateOf(x), before);
        Check.due("a failing one right behind others", Leagues.run(x, "leave 0;leave 0;x"),
                "throws IllegalArgumentException");
        Check.due("the form comes first", Leagues.stateOf(x), before);
    }

    private static void ducksInScripts() {
        BathLeague x = Leagues.withBaths(1);
        x.addDuck(0, 40, 40);
        Check.due("content in between", Leagues.run(x, "tap 0 w 9;tap 0 h 9;tap 0 c 9;tap 0 h 9"), "4");
        Check.due("quacks", x.quacks(0), 2);
        Check.due("a tick", Leagues.run(x, "duck 0 0 99;plug 0 -;tick 15"), "3");
        Check.due("quacks", x.quacks(1), 1);
        Check.due("volume", x.volume(0), 0);
    }

    private static void fullBuffer() {
        BathLeague x = new BathLeague();
        String ticks = "tick;tick;tick;tick;tick;tick;tick;tick;tick;tick;tick;tick";
        Check.due("12 commands", Leagues.run(x, ticks), "12");
        Check.due("time", x.time(), 12);
        Check.due("60 characters", Leagues.run(x, ticks + ";"), "throws IllegalArgumentException");
        Check.due("errorPosition", x.errorPosition(), 60);
        Check.due("time", x.time(), 12);
    }

    private static void dueError(BathLeague x, String script, int position) {
        Check.due("'" + script + "'", Leagues.run(x, script), "throws IllegalArgumentException");
        Check.due("errorPosition of '" + script + "'", x.errorPosition(), position);
    }

    private static void errorPosition() {
        BathLeague x = new BathLeague();
        Check.refused("no script", ELEMENT, x::errorPosition);
        Check.due("a good script", Leagues.run(x, "bath"), "1");
        Check.due("a failing script", Leagues.run(x, "join 0"), "throws IllegalStateException");
        Check.refused("no script of a wrong form", ELEMENT, x::errorPosition);
        dueError(x, "", 0);
        dueError(x, " bath", 0);
        dueError(x, "Bath", 0);
        dueError(x, "bat", 3);
        dueError(x, "bath;", 5);
        dueError(x, "bath;;bath", 5);
        dueError(x, "bath; bath", 5);
        dueError(x, "bath ", 4);
        dueError(x, "bath 1", 4);
        dueError(x, "t", 1);
        dueError(x, "tx", 1);
        dueError(x, "tap x", 4);
        dueError(x, "tap 12 c 1", 5);
        dueError(x, "tap 0 x 1", 6);
        dueError(x, "tap 0 c", 7);
        dueError(x, "tap 0 c x", 8);
        dueError(x, "tap 0 c 123", 10);
        dueError(x, "tap 0 c 1 ", 9);
        dueError(x, "p", 1);
        dueError(x, "pa", 1);
        dueError(x, "plug 0 1", 7);
        dueError(x, "plug 0 ++", 8);
        dueError(x, "pour 0 1", 8);
        dueError(x, "pour 0 10 1", 8);
        dueError(x, "pour 0 1 -1", 9);
        dueError(x, "duck 0 12", 9);
        dueError(x, "duck 0 123 4", 9);
        dueError(x, "duck 0 1;", 8);
        dueError(x, "join", 4);
        dueError(x, "join 00", 6);
        dueError(x, "leave  0", 6);
        dueError(x, "tick ", 5);
        dueError(x, "tick;", 5);
        dueError(x, "tick ;tick", 5);
        dueError(x, "tick 1;tick x", 12);
        dueError(x, "tick1", 4);
        dueError(x, "tick 1/", 6);
        dueError(x, "tick 1:", 6);
        dueError(x, "bath,bath", 4);
        Check.due("a good script", Leagues.run(x, "tick 1"), "1");
        Check.due("a failing script", Leagues.run(x, "join 0"), "throws IllegalStateException");
        Check.due("the latest one of a wrong form", x.errorPosition(), 4);
        x.save();
        x.restore();
        Check.due("restore leaves it", x.errorPosition(), 4);
        x.addBath();
        x.undo();
        Check.due("undo leaves it", x.errorPosition(), 4);
    }

    private static void everyErrorPosition() {
        String good = "tap 1 w 20;plug 4 +;pour 0 1 9;duck 2 3 4";
        String others = "bath;join 3;leave 2;tick;tick 20";
        String signs = "tap 0 c 1;tap 2 h 3;plug 1 -";
        for (String script : new String[] {good, others, signs}) {
            for (int i = 0; i < script.length(); i++) {
                for (char sign = 32; sign <= 126; sign++) {
                    dueLikeModel(script.substring(0, i) + sign + script.substring(i + 1));
                }
                dueLikeModel(script.substring(0, i));
            }
        }
    }

    private static void dueLikeModel(String script) {
        BathLeague x = new BathLeague();
        if (Leagues.run(x, script).equals("throws IllegalArgumentException")) {
            Check.due("errorPosition of '" + script + "'", x.errorPosition(), Model.errorPositionOf(script));
        } else {
            Check.due("the form of '" + script + "'", Model.isScript(script), true);
        }
    }

    private static void failedCommand() {
        BathLeague x = new BathLeague();
        Check.refused("no script", ELEMENT, x::failedCommand);
        Check.due("a wrong form", Leagues.run(x, "?"), "throws IllegalArgumentException");
        Check.refused("no script with a failed command", ELEMENT, x::failedCommand);
        Check.due("a failing one", Leagues.run(x, "bath;bath;tap 2 c 1"), "throws IllegalStateException");
        Check.due("failedCommand", x.failedCommand(), 2);
        Check.due("a sixth bath", Leagues.run(x, "bath;bath;bath;bath;bath;bath"), "throws IllegalStateException");
        Check.due("failedCommand", x.failedCommand(), 5);
        Check.due("a seventh duck", Leagues.run(x, "duck 0 1 2"), "throws IllegalStateException");
        Check.due("failedCommand", x.failedCommand(), 0);
        Check.due("two failing ones", Leagues.run(x, "bath;join 0;join 0"), "throws IllegalStateException");
        Check.due("the first of them", x.failedCommand(), 1);
        Check.due("a good one", Leagues.run(x, "bath"), "1");
        Check.due("a wrong form", Leagues.run(x, "?"), "throws IllegalArgumentException");
        Check.due("the latest one that failed", x.failedCommand(), 1);
        x.undo();
        Check.due("undo leaves it", x.failedCommand(), 1);
    }
}
