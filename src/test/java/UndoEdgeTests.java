/** Promises 54 to 56 at their edges: a test for each sentence that names one. */
final class UndoEdgeTests {
    private UndoEdgeTests() {
    }

    static void run() {
        undo();
        eachChange();
        noChange();
        covers();
        save();
        restore();
    }

    /** One bath, and so many taps of 1 litre after it: one change more than that. */
    private static Run taps(int count) {
        Run x = new Run().baths(1);
        for (int i = 0; i < count; i++) {
            x.does("runTap", 0, Run.WARM, 1);
        }
        return x;
    }

    private static void undo() {
        Check.test("promise 54: nothing to undo at first", () -> new Run().refused(Run.ELEMENT, "undo")
                .refused(Run.ELEMENT, "undo"));
        Check.test("promise 54: one change, and no second", () -> new Run().baths(1).due(0, "undo").due(0, "bathCount")
                .refused(Run.ELEMENT, "undo").due(0, "bathCount"));
        Check.test("promise 54: 8 changes, back to the first", () -> {
            Run x = taps(7);
            for (int i = 7; i >= 0; i--) {
                x.due(i, "undo");
            }
            x.due(0, "bathCount").refused(Run.ELEMENT, "undo");
        });
        Check.test("promise 54: of 9 changes the first stays", () -> {
            Run x = taps(8);
            for (int i = 7; i >= 0; i--) {
                x.due(i, "undo").due(i, "volume", 0);
            }
            x.refused(Run.ELEMENT, "undo").due(1, "bathCount").due(0, "volume", 0);
        });
        Check.test("promise 54: of 30 changes the latest 8, the latest one first", () -> {
            Run x = taps(29).due(29, "volume", 0);
            for (int i = 7; i >= 0; i--) {
                x.due(i, "undo").due(21 + i, "volume", 0);
            }
            x.refused(Run.ELEMENT, "undo").due(21, "volume", 0);
        });
        Check.test("promise 54: a change after an undo is the latest one", () -> taps(3).does("undo")
                .fill(0, Run.HOT, 5).due(7, "volume", 0).due(3, "undo").due(2, "volume", 0).due(2, "undo")
                .due(1, "volume", 0));
        Check.test("promise 54: after 8 undos and 8 new changes, 8 undos more", () -> {
            Run x = taps(10);
            for (int i = 0; i < 8; i++) {
                x.does("undo");
            }
            x.refused(Run.ELEMENT, "undo").due(2, "volume", 0);
            for (int i = 0; i < 8; i++) {
                x.does("runTap", 0, Run.HOT, 2);
            }
            for (int i = 7; i >= 0; i--) {
                x.due(i, "undo").due(2 + 2 * i, "volume", 0);
            }
            x.refused(Run.ELEMENT, "undo");
        });
        Check.test("promise 54: undo is no change that could be undone", () -> taps(2).due(2, "undo").due(1, "undo")
                .due(0, "volume", 0).due(0, "undo").refused(Run.ELEMENT, "undo"));
    }

    private static void undone(String what, String typed, String name, int... arguments) {
        Check.test("promise 54: a change is " + what, () -> {
            Run x = members().typed(typed).does(name, arguments).does("undo");
            Check.due("the state", Survey.state(x), Survey.state(members()));
        });
    }

    private static Run members() {
        return new Run().baths(3).fill(0, Run.WARM, 10).fill(1, Run.WARM, 3).does("join", 0).does("addDuck", 0, 40, 40)
                .does("setPlug", 1, Run.OUT);
    }

    private static void eachChange() {
        undone("addBath", "", "addBath");
        undone("runTap", "", "runTap", 0, Run.HOT, 20);
        undone("setPlug", "", "setPlug", 0, Run.OUT);
        undone("setPlug that changes nothing", "", "setPlug", 0, Run.IN);
        undone("pour", "", "pour", 0, 2, 10);
        undone("addDuck", "", "addDuck", 1, 0, 99);
        undone("join", "", "join", 1);
        undone("leave", "", "leave", 0);
        undone("advance", "", "advance", 20);
        undone("runScript", "bath;tap 3 w 5;join 3;tick 9", "runScript");
        Check.test("promise 54: a script of 12 commands is one change", () -> new Run().baths(1)
                .scriptDue(12, "tick;tick;tick;tick;tick;tick;tick;tick;tick;tick;tick;tick").due(12, "time")
                .due(1, "undo").due(0, "time").due(0, "undo"));
        Check.test("promise 54: a change that changes nothing counts", () -> new Run().baths(1)
                .does("setPlug", 0, Run.IN).does("setPlug", 0, Run.IN).scriptDue(1, "plug 0 +").due(3, "undo")
                .due(2, "undo").due(1, "undo").due(1, "bathCount").due(0, "undo").due(0, "bathCount"));
    }

    private static void noChange() {
        Check.test("promise 54: a refused call of each change is none", () -> new Run().baths(1)
                .refused(Run.ARGUMENT, "runTap", 0, 0, 21).refused(Run.INDEX, "setPlug", 1, Run.IN)
                .refused(Run.ARGUMENT, "pour", 0, 0, 1).refused(Run.ARGUMENT, "addDuck", 0, 1, 0)
                .refused(Run.UNSUPPORTED, "join", 0).refused(Run.STATE, "leave", 0).refused(Run.ARGUMENT, "advance", 0)
                .scriptRefused(Run.ARGUMENT, "bath;").scriptRefused(Run.STATE, "tick;join 0").due(0, "undo")
                .due(0, "bathCount"));
        Check.test("promise 54: a refused addBath is none", () -> new Run().baths(5).refused(Run.STATE, "addBath")
                .due(4, "undo").due(4, "bathCount"));
        Check.test("promise 54: save, typing, rendering and questions are none", () -> new Run().baths(1).does("save")
                .typed("tick").does("renderBath", 0).does("heatAfter", 0, 60).does("volume", 0).due(0, "undo")
                .due(0, "bathCount"));
        Check.test("promise 54: refused changes do not push the oldest one out", () -> {
            Run x = taps(7);
            for (int i = 0; i < 8; i++) {
                x.refused(Run.ARGUMENT, "runTap", 0, 0, 0).scriptRefused(Run.STATE, "join 1");
            }
            for (int i = 7; i >= 0; i--) {
                x.due(i, "undo");
            }
            x.due(0, "bathCount");
        });
    }

    private static void covers() {
        Check.test("promise 54: undo leaves the buffer, both marks, the output and the snapshot", () -> new Run()
                .does("save").scriptRefused(Run.ARGUMENT, "bath;").scriptRefused(Run.STATE, "tick;join 0").baths(2)
                .does("renderBath", 1).typed("tic").does("undo").does("undo").due(0, "bathCount")
                .due(5, "errorPosition").due(1, "failedCommand").due('1', "outputAt", 0).due(4, "type", 'k')
                .due(0, "restore"));
        Check.test("promise 54: a save behind a change is not taken back with it", () -> new Run().baths(2).does("save")
                .does("undo").due(1, "bathCount").due(2, "restore").due(2, "bathCount"));
        Check.test("promise 54: events, totals, quacks and time come back", () -> new Run().baths(1)
                .fill(0, Run.WARM, 10).does("join", 0).does("addDuck", 0, 40, 40).does("setPlug", 0, Run.OUT)
                .does("advance", 20).due(1, "quacks", 0).due(1, "defectionTotal").due(10, "drainedLitres")
                .due(3, "eventCount").due(20, "time").does("undo").due(0, "quacks", 0).due(0, "defectionTotal")
                .due(0, "drainedLitres").due(2, "eventCount").due(0, "time").due(0, "lostHeat")
                .due(true, "isMember", 0));
    }

    private static void save() {
        Check.test("promise 55: the number of baths, from 0 to 5", () -> {
            Run x = new Run().due(0, "save");
            for (int i = 1; i <= 5; i++) {
                x.baths(1).due(i, "save");
            }
        });
        Check.test("promise 55: a later snapshot replaces an earlier one", () -> new Run().baths(1).due(1, "save")
                .baths(1).due(2, "save").baths(1).due(2, "restore").due(2, "bathCount"));
        Check.test("promise 55: a snapshot stays as it was taken", () -> new Run().baths(1).fill(0, Run.WARM, 5)
                .does("save").fill(0, Run.HOT, 5).does("setPlug", 0, Run.OUT).does("advance", 2).does("restore")
                .due(5, "volume", 0).due(200, "heat", 0).due(true, "isPlugged", 0).due(0, "time"));
        Check.test("promise 55: save leaves what can be undone", () -> new Run().baths(2).does("save").due(1, "undo")
                .due(0, "undo").refused(Run.ELEMENT, "undo"));
    }

    private static void restore() {
        Check.test("promise 56: no snapshot at first, whatever else was done", () -> new Run()
                .refused(Run.STATE, "restore").baths(1).does("undo").refused(Run.STATE, "restore"));
        Check.test("promise 56: a snapshot of nothing is one", () -> new Run().does("save").baths(5).due(0, "restore")
                .due(0, "bathCount").refused(Run.INDEX, "volume", 0));
        Check.test("promise 56: of everything full, and back from nothing", () -> {
            Run x = new Run().does("save").baths(5);
            for (int i = 0; i < 5; i++) {
                x.fill(i, Run.WARM, 40).does("join", i);
            }
            for (int i = 0; i < 6; i++) {
                x.does("addDuck", i % 5, 0, 99);
            }
            x.does("save").does("advance", 20).due(5, "restore").due(6, "duckCount").due(10, "eventCount")
                    .due(5, "memberCount").due(8000, "leagueHeat").due(0, "time").due(0, "lostHeat");
        });
        Check.test("promise 56: the snapshot is kept, as often as it is restored", () -> new Run().baths(1).does("save")
                .baths(1).due(1, "restore").due(1, "restore").baths(2).due(1, "restore").due(1, "bathCount"));
        Check.test("promise 56: afterwards there is nothing to undo", () -> taps(9).does("save").due(1, "restore")
                .refused(Run.ELEMENT, "undo").due(9, "volume", 0));
        Check.test("promise 56: 8 changes after a restore can be undone, and no ninth", () -> {
            Run x = taps(5).does("save").does("restore");
            for (int i = 0; i < 8; i++) {
                x.does("runTap", 0, Run.WARM, 1);
            }
            for (int i = 7; i >= 0; i--) {
                x.due(i, "undo").due(5 + i, "volume", 0);
            }
            x.refused(Run.ELEMENT, "undo").due(5, "volume", 0);
        });
        Check.test("promise 56: restore leaves the buffer, both marks and the output", () -> new Run().does("save")
                .scriptRefused(Run.ARGUMENT, "bath;").scriptRefused(Run.STATE, "tick;join 0").baths(2)
                .does("renderBath", 1).typed("tic").due(0, "restore").due(5, "errorPosition").due(1, "failedCommand")
                .due('1', "outputAt", 0).due(4, "type", 'k'));
        Check.test("promise 56: a restore that is refused leaves what can be undone", () -> new Run().baths(2)
                .refused(Run.STATE, "restore").due(1, "undo").due(0, "undo"));
    }
}
