/** Promises 36 to 47 at their edges: a test for each sentence that names one. */
final class EventEdgeTests {
    private static final int LOWEST = Integer.MIN_VALUE;
    private static final int HIGHEST = Integer.MAX_VALUE;

    private EventEdgeTests() {
    }

    static void run() {
        Check.test("promise 36: eventCount from 0 to 10, and 10 from then on", () -> {
            Run x = new Run().baths(1).due(0, "eventCount");
            for (int i = 1; i <= 15; i++) {
                x.does("runTap", 0, Run.WARM, 1).due(Math.min(i, 10), "eventCount");
            }
        });
        recency("promise 37", "eventKind", 't');
        recency("promise 38", "eventBath", 1);
        recency("promise 39", "eventLitres", 3);
        oldest();
        kinds();
        totals();
        contentShare();
        isConsistent();
    }

    private static void recency(String promise, String name, Object want) {
        Check.test(promise + ": no event at all", () -> new Run().baths(1).refused(Run.ELEMENT, name, 0)
                .refused(Run.ELEMENT, name, -1));
        Check.test(promise + ": one event, and none beside it", () -> new Run().baths(2).fill(1, Run.WARM, 3)
                .due(want, name, 0).refused(Run.ELEMENT, name, 1).refused(Run.ELEMENT, name, -1)
                .refused(Run.ELEMENT, name, 9));
        Check.test(promise + ": the tenth event, and no eleventh", () -> {
            Run x = new Run().baths(2);
            for (int i = 0; i < 12; i++) {
                x.fill(1, Run.WARM, 3);
            }
            x.due(want, name, 0).due(want, name, 9).refused(Run.ELEMENT, name, 10).refused(Run.ELEMENT, name, 11)
                    .refused(Run.ELEMENT, name, -1).refused(Run.ELEMENT, name, LOWEST)
                    .refused(Run.ELEMENT, name, HIGHEST);
        });
    }

    private static void event(Run x, int recency, char kind, int bath, Object litres) {
        x.due(kind, "eventKind", recency).due(bath, "eventBath", recency).due(litres, "eventLitres", recency);
    }

    /** Taps of 1 litre, 2 litres and so on into the baths 0, 1, 0, 1 and so on. */
    private static Run taps(int count) {
        Run x = new Run().baths(2);
        for (int i = 1; i <= count; i++) {
            x.does("runTap", (i + 1) % 2, Run.WARM, i);
        }
        return x;
    }

    private static final String NO_LITRES = "throws " + Run.ELEMENT;

    private static void oldest() {
        Check.test("promises 36 to 39: the first of 10 events is remembered", () -> event(taps(10), 9, 't', 0, 1));
        Check.test("promises 36 to 39: the first of 11 events is dropped", () -> {
            Run x = taps(11);
            event(x, 0, 't', 0, 11);
            event(x, 9, 't', 1, 2);
            x.refused(Run.ELEMENT, "eventKind", 10);
        });
        Check.test("promises 36 to 39: a defection drops the oldest event", () -> {
            Run x = taps(3).does("join", 0).fill(1, Run.HOT, 1).fill(1, Run.HOT, 1).fill(1, Run.HOT, 1)
                    .fill(1, Run.HOT, 1).fill(0, Run.COLD, 20).fill(0, Run.COLD, 20).due(10, "eventCount");
            event(x, 9, 't', 0, 1);
            x.due(1, "advance", 1).due(10, "eventCount");
            event(x, 0, 'd', 0, NO_LITRES);
            event(x, 9, 't', 1, 2);
        });
        Check.test("promises 36 to 39: 5 defections of one tick drop 5 events", () -> {
            Run x = new Run().baths(5);
            for (int i = 0; i < 5; i++) {
                x.fill(i, Run.WARM, 1).does("join", i);
            }
            for (int i = 4; i >= 0; i--) {
                x.fill(i, Run.COLD, 15 + i);
            }
            x.due(5, "advance", 1).due(10, "eventCount");
            for (int i = 0; i < 5; i++) {
                event(x, 4 - i, 'd', i, NO_LITRES);
                event(x, 5 + i, 't', i, 15 + i);
            }
        });
        Check.test("promises 36 to 39: undo brings a dropped event back", () -> {
            Run x = taps(11).does("undo");
            x.due(10, "eventCount");
            event(x, 0, 't', 1, 10);
            event(x, 9, 't', 0, 1);
        });
        Check.test("promise 36: after a restore, as many events as then", () -> taps(3).does("save").fill(0, 0, 5)
                .due(4, "eventCount").does("restore").due(3, "eventCount").refused(Run.ELEMENT, "eventKind", 3));
    }

    private static void kinds() {
        Check.test("promises 37 to 39: a tap, with its litres", () -> event(new Run().baths(5).fill(4, Run.HOT, 20), 0,
                't', 4, 20));
        Check.test("promises 37 to 39: a pouring, with the first bath and its litres", () -> event(new Run().baths(5)
                .fill(4, Run.HOT, 100).does("pour", 4, 0, 99), 0, 'p', 4, 99));
        Check.test("promises 37 to 39: a bath that joined has no litres", () -> event(new Run().baths(5)
                .fill(4, Run.WARM, 1).does("join", 4), 0, 'j', 4, NO_LITRES));
        Check.test("promises 37 to 39: a call of leave has no litres", () -> event(new Run().baths(5)
                .fill(4, Run.WARM, 1).does("join", 4).does("leave", 4), 0, 'l', 4, NO_LITRES));
        Check.test("promises 37 to 39: a defection has no litres", () -> event(new Run().baths(5).fill(4, Run.WARM, 1)
                .does("join", 4).fill(4, Run.COLD, 20).does("advance", 1), 0, 'd', 4, NO_LITRES));
        Check.test("promise 36: other changes, and ticks without defections, are no events", () -> new Run().baths(1)
                .does("setPlug", 0, Run.OUT).does("setPlug", 0, Run.IN).does("addDuck", 0, 0, 99).does("advance", 20)
                .scriptDue(2, "bath;plug 1 -").due(0, "eventCount"));
        Check.test("promises 36 to 39: the commands of a script are events", () -> {
            Run x = new Run().baths(2).scriptDue(4, "tap 0 w 9;pour 0 1 3;join 1;leave 1").due(4, "eventCount");
            event(x, 3, 't', 0, 9);
            event(x, 2, 'p', 0, 3);
            event(x, 1, 'j', 1, NO_LITRES);
            event(x, 0, 'l', 1, NO_LITRES);
        });
    }

    private static void totals() {
        Check.test("promise 40: from 0 on, by 1 with each tick, in a script too", () -> new Run().due(0, "time")
                .does("advance", 1).due(1, "time").does("advance", 20).due(21, "time").scriptDue(2, "tick;tick 20")
                .due(42, "time").does("undo").due(21, "time"));
        Check.test("promise 41: defections of ticks, not calls of leave", () -> new Run().due(0, "defectionTotal")
                .baths(2).fill(0, Run.WARM, 1).does("join", 0).does("leave", 0).due(0, "defectionTotal")
                .does("join", 0).fill(0, Run.COLD, 20).does("advance", 1).due(1, "defectionTotal")
                .fill(1, Run.WARM, 1).does("join", 1).fill(1, Run.COLD, 20).scriptDue(1, "tick")
                .due(2, "defectionTotal"));
        Check.test("promise 42: from 0 to 500 litres, pouring adds none", () -> {
            Run x = new Run().due(0, "tappedLitres").baths(5);
            for (int i = 0; i < 5; i++) {
                x.fill(i, Run.WARM, 100);
            }
            x.due(500, "tappedLitres").refused(Run.UNSUPPORTED, "runTap", 0, 0, 1).due(500, "tappedLitres")
                    .does("setPlug", 0, Run.OUT).does("advance", 1).does("pour", 1, 0, 3).due(500, "tappedLitres")
                    .due(3, "drainedLitres");
        });
        Check.test("promise 43: what runs out in ticks, not what is poured", () -> new Run().due(0, "drainedLitres")
                .baths(2).fill(0, Run.WARM, 5).does("pour", 0, 1, 1).due(0, "drainedLitres").does("setPlug", 0, Run.OUT)
                .due(0, "drainedLitres").does("advance", 2).due(4, "drainedLitres").does("advance", 20)
                .due(4, "drainedLitres"));
        Check.test("promise 44: 10, 40 and 70 a litre, ticks and pouring add none", () -> new Run()
                .due(0, "tappedHeat").baths(2).fill(0, Run.COLD, 1).due(10, "tappedHeat").fill(0, Run.WARM, 1)
                .due(50, "tappedHeat").fill(0, Run.HOT, 1).due(120, "tappedHeat").does("pour", 0, 1, 1)
                .does("advance", 20).due(120, "tappedHeat"));
        Check.test("promise 45: heat lost to the room, and gained from it", () -> new Run().due(0, "lostHeat").baths(2)
                .fill(0, Run.WARM, 10).does("advance", 1).due(20, "lostHeat").fill(1, Run.COLD, 40).does("advance", 1)
                .due(20 + 18 - 40, "lostHeat"));
        Check.test("promise 45: heat of litres that run out; shared and poured heat is not lost", () -> new Run()
                .baths(2).fill(0, Run.WARM, 10).fill(1, Run.WARM, 10).does("join", 0).does("join", 1)
                .fill(1, Run.HOT, 10).does("pour", 1, 0, 5).due(0, "lostHeat").does("setPlug", 0, Run.OUT)
                .does("advance", 1).due(37 + 52 + 127, "lostHeat").due(511 + 20, "heat", 0).due(773 - 20, "heat", 1));
    }

    private static void contentShare() {
        Check.test("promise 46: no ducks are refused", () -> new Run().refused(Run.ARITHMETIC, "contentShare").baths(1)
                .fill(0, Run.WARM, 1).refused(Run.ARITHMETIC, "contentShare").does("addDuck", 0, 0, 99)
                .due(1.0f, "contentShare").does("undo").refused(Run.ARITHMETIC, "contentShare"));
        Check.test("promise 46: none of 6, and all of 6", () -> {
            Run x = new Run().baths(1);
            for (int i = 0; i < 6; i++) {
                x.does("addDuck", 0, 0, 99);
            }
            x.due(0.0f, "contentShare").fill(0, Run.WARM, 1).due(1.0f, "contentShare");
        });
        Check.test("promise 46: 1 of 3 and 5 of 6 are floats", () -> new Run().baths(1).fill(0, Run.WARM, 1)
                .does("addDuck", 0, 40, 40).does("addDuck", 0, 41, 41).does("addDuck", 0, 39, 39)
                .due(1.0f / 3.0f, "contentShare").does("addDuck", 0, 0, 40).does("addDuck", 0, 40, 99)
                .does("addDuck", 0, 30, 50).due(4.0f / 6.0f, "contentShare"));
    }

    private static void isConsistent() {
        Check.test("promise 47: nothing there is consistent", () -> new Run().due(true, "isConsistent").baths(5)
                .due(true, "isConsistent"));
        Check.test("promise 47: everything full is, whether members or not", () -> {
            Run x = new Run().baths(5);
            for (int i = 0; i < 5; i++) {
                x.fill(i, Run.WARM, 1).does("join", i).fill(i, Run.HOT, 99);
            }
            x.due(true, "isConsistent").does("advance", 20).due(true, "isConsistent").does("leave", 0)
                    .due(true, "isConsistent");
        });
        Check.test("promise 47: everything run out is", () -> new Run().baths(2).fill(0, Run.HOT, 7)
                .fill(1, Run.COLD, 8).does("setPlug", 0, Run.OUT).does("setPlug", 1, Run.OUT).does("advance", 3)
                .due(0, "volume", 0).due(0, "volume", 1).due(true, "isConsistent"));
        Check.test("promise 47: gained heat and cut heat are", () -> new Run().baths(3).fill(0, Run.COLD, 7)
                .fill(1, Run.HOT, 1).fill(1, Run.COLD, 6).does("setPlug", 1, Run.OUT).does("pour", 1, 2, 1)
                .does("advance", 1).due(true, "isConsistent").does("pour", 0, 2, 3).does("advance", 2)
                .due(true, "isConsistent").does("undo").due(true, "isConsistent"));
    }
}
