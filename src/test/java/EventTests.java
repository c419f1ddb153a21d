import java.util.NoSuchElementException;

/** Promises 36 to 47: events, totals, checks. */
final class EventTests {
    private static final Class<NoSuchElementException> ELEMENT = NoSuchElementException.class;

    private EventTests() {
    }

    static void run() {
        Check.test("promises 36 to 39: each kind of event", EventTests::kinds);
        Check.test("promises 36 to 39: the latest 10 events", EventTests::latest);
        Check.test("promises 36 to 39: what is no event", EventTests::noEvents);
        Check.test("promises 37 to 39: no such event", EventTests::noSuchEvent);
        Check.test("promises 40 and 41: time and defectionTotal", EventTests::timeAndDefections);
        Check.test("promises 42 to 45: tapped, drained and lost", EventTests::totals);
        Check.test("promise 45: gained heat counts negatively", EventTests::gainedHeat);
        Check.test("promise 46: contentShare", EventTests::contentShare);
        Check.test("promise 47: isConsistent", EventTests::isConsistent);
    }

    private static void dueEvent(BathLeague x, int recency, char kind, int bath, int litres) {
        Check.due("eventKind(" + recency + ")", x.eventKind(recency), kind);
        Check.due("eventBath(" + recency + ")", x.eventBath(recency), bath);
        if (litres > 0) {
            Check.due("eventLitres(" + recency + ")", x.eventLitres(recency), litres);
        } else {
            Check.refused("eventLitres(" + recency + ")", ELEMENT, () -> x.eventLitres(recency));
        }
    }

    private static void kinds() {
        BathLeague x = Leagues.withBaths(3);
        Check.due("eventCount", x.eventCount(), 0);
        x.runTap(1, Leagues.WARM, 7);
        Check.due("eventCount", x.eventCount(), 1);
        dueEvent(x, 0, 't', 1, 7);
        x.pour(1, 2, 3);
        dueEvent(x, 0, 'p', 1, 3);
        dueEvent(x, 1, 't', 1, 7);
        x.join(2);
        dueEvent(x, 0, 'j', 2, 0);
        x.leave(2);
        dueEvent(x, 0, 'l', 2, 0);
        x.join(1);
        x.join(2);
        x.runTap(2, Leagues.COLD, 20);
        x.advance(1);
        dueEvent(x, 0, 'd', 2, 0);
        dueEvent(x, 7, 't', 1, 7);
        Check.due("eventCount", x.eventCount(), 8);
    }

    private static void latest() {
        BathLeague x = Leagues.withBaths(1);
        for (int i = 1; i <= 13; i++) {
            x.runTap(0, Leagues.WARM, i % 5 + 1);
            Check.due("eventCount", x.eventCount(), Math.min(10, i));
        }
        for (int i = 0; i < 10; i++) {
            dueEvent(x, i, 't', 0, (13 - i) % 5 + 1);
        }
        Check.refused("eventKind(10)", ELEMENT, () -> x.eventKind(10));
        x.join(0);
        dueEvent(x, 0, 'j', 0, 0);
        dueEvent(x, 9, 't', 0, 1);
    }

    private static void noEvents() {
        BathLeague x = Leagues.withBaths(1);
        x.addDuck(0, 0, 99);
        x.setPlug(0, false);
        x.advance(3);
        x.save();
        x.restore();
        Check.refused("a tap that is refused", IllegalArgumentException.class, () -> x.runTap(0, 0, 21));
        Check.due("eventCount", x.eventCount(), 0);
        x.setPlug(0, true);
        x.runTap(0, Leagues.WARM, 2);
        x.join(0);
        Check.refused("a join that is refused", IllegalStateException.class, () -> x.join(0));
        Check.due("the predicted defection", x.ticksUntilDefection(0) > 0, true);
        x.heatAfter(0, 60);
        Check.due("eventCount", x.eventCount(), 2);
    }

    private static void noSuchEvent() {
        BathLeague x = Leagues.withBaths(1);
        x.runTap(0, Leagues.WARM, 1);
        x.runTap(0, Leagues.WARM, 1);
        for (int recency : new int[] {-1, 2, 9, 10, Integer.MIN_VALUE, Integer.MAX_VALUE}) {
            Check.refused("eventKind(" + recency + ")", ELEMENT, () -> x.eventKind(recency));
            Check.refused("eventBath(" + recency + ")", ELEMENT, () -> x.eventBath(recency));
            Check.refused("eventLitres(" + recency + ")", ELEMENT, () -> x.eventLitres(recency));
        }
    }

    private static void timeAndDefections() {
        BathLeague x = Leagues.withWarmMembers(10, 10);
        x.advance(3);
        Check.due("time", x.time(), 3);
        Check.due("defectionTotal", x.defectionTotal(), 0);
        x.leave(0);
        Check.due("a call of leave", x.defectionTotal(), 0);
        x.advance(20);
        Check.due("time", x.time(), 23);
        Check.due("defectionTotal", x.defectionTotal(), 1);
        x.heatAfter(0, 60);
        Check.due("time", x.time(), 23);
    }

    private static void totals() {
        BathLeague x = Leagues.withBaths(2);
        x.runTap(0, Leagues.HOT, 5);
        x.runTap(1, Leagues.COLD, 3);
        Check.due("tappedLitres", x.tappedLitres(), 8);
        Check.due("tappedHeat", x.tappedHeat(), 380);
        x.pour(0, 1, 2);
        Check.due("tappedLitres after pour", x.tappedLitres(), 8);
        Check.due("tappedHeat after pour", x.tappedHeat(), 380);
        Check.due("drainedLitres after pour", x.drainedLitres(), 0);
        Check.due("lostHeat after pour", x.lostHeat(), 0);
        x.setPlug(0, false);
        Check.due("lostHeat after setPlug", x.lostHeat(), 0);
        x.advance(1);
        Check.due("drainedLitres", x.drainedLitres(), 3);
        Check.due("210 - 15, all of it, and (170 - 100) / 10", x.lostHeat(), 210 + 7);
        x.setPlug(1, false);
        x.advance(2);
        Check.due("drainedLitres", x.drainedLitres(), 8);
        Check.due("lostHeat", x.lostHeat(), 380);
    }

    private static void gainedHeat() {
        BathLeague x = Leagues.withBaths(1);
        x.runTap(0, Leagues.COLD, 20);
        x.advance(1);
        Check.due("lostHeat", x.lostHeat(), -20);
        Check.due("heat", x.heat(0), 220);
        Check.due("isConsistent", x.isConsistent(), true);
    }

    private static void contentShare() {
        BathLeague x = Leagues.withBaths(2);
        Check.refused("no ducks", ArithmeticException.class, x::contentShare);
        x.addDuck(0, 0, 99);
        Check.due("0 of 1", x.contentShare(), 0.0f);
        x.runTap(0, Leagues.WARM, 1);
        Check.due("1 of 1", x.contentShare(), 1.0f);
        x.addDuck(1, 0, 99);
        x.addDuck(1, 0, 99);
        Check.due("1 of 3", x.contentShare(), 1.0f / 3.0f);
        x.addDuck(0, 40, 40);
        x.addDuck(0, 41, 41);
        x.addDuck(0, 39, 39);
        Check.due("2 of 6", x.contentShare(), 2.0f / 6.0f);
    }

    private static void isConsistent() {
        BathLeague x = Leagues.withWarmMembers(20, 7, 13);
        Check.due("isConsistent", x.isConsistent(), true);
        x.runTap(1, Leagues.HOT, 5);
        x.pour(1, 0, 5);
        x.setPlug(2, false);
        for (int i = 0; i < 10; i++) {
            x.advance(1);
            Check.due("isConsistent after a tick", x.isConsistent(), true);
        }
        x.undo();
        Check.due("isConsistent after undo", x.isConsistent(), true);
    }
}
