import java.util.NoSuchElementException;

/** Promises 54 to 56: undo, save and restore. */
final class UndoTests {
    private static final Class<NoSuchElementException> ELEMENT = NoSuchElementException.class;

    private UndoTests() {
    }

    static void run() {
        Check.test("promise 54: undo takes back every kind of change", UndoTests::everyChange);
        Check.test("promise 54: the latest 8 changes", UndoTests::latestChanges);
        Check.test("promise 54: undo, and changes again", UndoTests::changesAfterUndo);
        Check.test("promise 54: what is no change", UndoTests::noChanges);
        Check.test("promise 54: changes that change nothing", UndoTests::emptyChanges);
        Check.test("promise 54: ducks after undo", UndoTests::ducksAfterUndo);
        Check.test("promises 55 and 56: save and restore", UndoTests::snapshot);
        Check.test("promise 56: nothing to undo after restore", UndoTests::undoAfterRestore);
        Check.test("promises 55 and 56: the snapshot is not covered by undo", UndoTests::snapshotAfterUndo);
    }

    private static void everyChange() {
        BathLeague x = Leagues.withWarmMembers(10, 10);
        x.addDuck(0, 39, 41);
        String state = Leagues.stateOf(x);
        dueUndone(x, state, x::addBath);
        dueUndone(x, state, () -> x.runTap(0, Leagues.HOT, 5));
        dueUndone(x, state, () -> x.setPlug(0, false));
        dueUndone(x, state, () -> x.pour(0, 1, 10));
        dueUndone(x, state, () -> x.addDuck(1, 2, 3));
        dueUndone(x, state, () -> x.leave(1));
        dueUndone(x, state, () -> x.advance(20));
        x.setPlug(1, false);
        state = Leagues.stateOf(x);
        dueUndone(x, state, () -> x.advance(2));
        dueUndone(x, state, () -> Leagues.run(x, "bath;tap 2 w 1;join 2;tick 20"));
        x.leave(0);
        state = Leagues.stateOf(x);
        dueUndone(x, state, () -> x.join(0));
    }

    private static void dueUndone(BathLeague x, String state, Check.Call change) {
        change.answer();
        Check.due("the change", Leagues.stateOf(x).equals(state), false);
        Check.due("undo", x.undo() >= 5, true);
        Check.due("the state", Leagues.stateOf(x), state);
    }

    private static void latestChanges() {
        BathLeague x = Leagues.withBaths(1);
        for (int i = 0; i < 11; i++) {
            x.runTap(0, Leagues.WARM, 1);
        }
        for (int i = 1; i <= 8; i++) {
            Check.due("undo", x.undo(), 8 - i);
            Check.due("volume", x.volume(0), 11 - i);
        }
        Check.refused("the ninth undo", ELEMENT, x::undo);
        Check.due("volume", x.volume(0), 3);
        BathLeague y = new BathLeague();
        Check.refused("undo at first", ELEMENT, y::undo);
        y.addBath();
        Check.due("undo", y.undo(), 0);
        Check.due("bathCount", y.bathCount(), 0);
        Check.refused("undo once more", ELEMENT, y::undo);
    }

    private static void changesAfterUndo() {
        BathLeague x = Leagues.withBaths(1);
        for (int i = 0; i < 9; i++) {
            x.runTap(0, Leagues.WARM, 1);
        }
        x.undo();
        x.undo();
        Check.due("volume", x.volume(0), 7);
        x.runTap(0, Leagues.HOT, 10);
        Check.due("the new change first", x.undo(), 6);
        Check.due("heat", x.heat(0), 280);
        for (int i = 5; i >= 0; i--) {
            Check.due("undo", x.undo(), i);
            Check.due("volume", x.volume(0), i + 1);
        }
        Check.refused("undo of what is forgotten", ELEMENT, x::undo);
        Check.due("a bath anew", x.addBath(), 1);
        Check.due("undo", x.undo(), 0);
        Check.due("the bath's state is that of a new one", x.addBath(), 1);
        Check.due("its volume", x.volume(1), 0);
    }

    private static void noChanges() {
        BathLeague x = Leagues.withBaths(1);
        x.runTap(0, Leagues.WARM, 5);
        x.renderBath(0);
        x.save();
        x.heatAfter(0, 5);
        x.litresToReach(0, 0, 20);
        Check.refused("a refused tap", IllegalArgumentException.class, () -> x.runTap(0, 0, 0));
        Check.refused("a refused plug", IndexOutOfBoundsException.class, () -> x.setPlug(1, true));
        Check.refused("a refused advance", IllegalArgumentException.class, () -> x.advance(0));
        Check.due("a script of a wrong form", Leagues.run(x, "bath;"), "throws IllegalArgumentException");
        Check.due("a failing script", Leagues.run(x, "bath;join 1"), "throws IllegalStateException");
        Check.due("undo", x.undo(), 1);
        Check.due("volume", x.volume(0), 0);
        Check.due("undo", x.undo(), 0);
    }

    private static void emptyChanges() {
        BathLeague x = Leagues.withBaths(1);
        x.setPlug(0, true);
        x.setPlug(0, true);
        Check.due("undo", x.undo(), 2);
        Check.due("undo", x.undo(), 1);
        Check.due("a script is one change", Leagues.run(x, "plug 0 +;plug 0 +"), "2");
        Check.due("undo", x.undo(), 1);
        Check.due("undo", x.undo(), 0);
    }

    private static void ducksAfterUndo() {
        BathLeague x = Leagues.withBaths(1);
        x.addDuck(0, 0, 99);
        x.runTap(0, Leagues.WARM, 5);
        x.undo();
        Check.due("isContent", x.isContent(0), false);
        x.advance(1);
        Check.due("undo covers what the duck observed", x.quacks(0), 0);
        x.runTap(0, Leagues.WARM, 5);
        x.setPlug(0, false);
        x.advance(2);
        Check.due("quacks", x.quacks(0), 1);
        x.undo();
        Check.due("quacks undone", x.quacks(0), 0);
        x.advance(2);
        Check.due("quacks again", x.quacks(0), 1);
    }

    private static void snapshot() {
        BathLeague x = new BathLeague();
        Check.refused("no snapshot", IllegalStateException.class, x::restore);
        Check.due("save of none", x.save(), 0);
        x.addBath();
        x.addBath();
        Check.due("restore", x.restore(), 0);
        Check.due("bathCount", x.bathCount(), 0);
        BathLeague y = Leagues.withWarmMembers(10, 3);
        y.addDuck(1, 30, 40);
        y.setPlug(1, false);
        y.advance(2);
        String state = Leagues.stateOf(y);
        Check.due("save", y.save(), 2);
        y.addBath();
        y.runTap(2, Leagues.HOT, 10);
        y.setPlug(1, true);
        y.leave(0);
        y.addDuck(2, 3, 4);
        y.advance(20);
        Check.due("restore", y.restore(), 2);
        Check.due("the state", Leagues.stateOf(y), state);
        y.pour(0, 1, 5);
        Check.due("restore once more", y.restore(), 2);
        Check.due("the state", Leagues.stateOf(y), state);
        y.addBath();
        String later = Leagues.stateOf(y);
        Check.due("save again", y.save(), 3);
        y.addBath();
        Check.due("restore", y.restore(), 3);
        Check.due("the later state", Leagues.stateOf(y), later);
    }

    private static void undoAfterRestore() {
        BathLeague x = Leagues.withBaths(2);
        x.save();
        x.runTap(0, Leagues.WARM, 5);
        x.restore();
        Check.refused("undo", ELEMENT, x::undo);
        x.runTap(0, Leagues.WARM, 6);
        Check.due("undo of what came after", x.undo(), 0);
        Check.due("volume", x.volume(0), 0);
        Check.due("save is no restore", x.addBath(), 2);
        x.save();
        Check.due("undo behind save", x.undo(), 0);
    }

    private static void snapshotAfterUndo() {
        BathLeague x = Leagues.withBaths(1);
        x.runTap(0, Leagues.WARM, 5);
        x.save();
        x.undo();
        Check.due("volume", x.volume(0), 0);
        Check.due("restore", x.restore(), 1);
        Check.due("volume", x.volume(0), 5);
        Check.due("time", x.time(), 0);
        Leagues.type(x, "tick");
        x.renderBath(0);
        x.restore();
        Check.due("the typed text is not covered", x.type(';'), 5);
        Check.due("the output is not covered", x.outputAt(0), '0');
    }
}
