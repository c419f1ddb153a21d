/** Promises 29 to 35 at their edges: a test for each sentence that names one. */
final class DuckEdgeTests {
    private static final int LOWEST = Integer.MIN_VALUE;
    private static final int HIGHEST = Integer.MAX_VALUE;

    private DuckEdgeTests() {
    }

    static void run() {
        Check.test("promise 29: duckCount from 0 to 6", () -> {
            Run x = new Run().due(0, "duckCount").baths(1).due(0, "duckCount");
            for (int i = 1; i <= 6; i++) {
                x.does("addDuck", 0, 0, 99).due(i, "duckCount");
            }
            x.refused(Run.STATE, "addDuck", 0, 0, 99).due(6, "duckCount");
        });
        indices("promise 30", "observedBath", 2, 4);
        indices("promise 31", "lowerBound", 0, 99);
        indices("promise 32", "upperBound", 40, 99);
        indices("promise 33", "isContent", true, false);
        indices("promise 34", "quacks", 0, 0);
        isContent();
        quacksAtMoments();
        quacksAtNoMoment();
        duckByQuacks();
    }

    /** Duck 0 observes bath 2, which has water of 40 degrees, from 0 to 40; the last one bath 4, from 99 to 99. */
    private static void indices(String promise, String name, Object first, Object last) {
        Check.test(promise + ": the first and the last of 6 ducks, and none beside them", () -> {
            Run x = new Run().baths(5).fill(2, Run.WARM, 1).does("addDuck", 2, 0, 40);
            for (int i = 1; i <= 4; i++) {
                x.does("addDuck", i, i, 50);
            }
            x.does("addDuck", 4, 99, 99).due(first, name, 0).due(last, name, 5).refused(Run.INDEX, name, -1)
                    .refused(Run.INDEX, name, 6).refused(Run.INDEX, name, LOWEST).refused(Run.INDEX, name, HIGHEST);
        });
        Check.test(promise + ": no duck at all, and one alone", () -> new Run().baths(3).fill(2, Run.WARM, 1)
                .refused(Run.INDEX, name, 0).does("addDuck", 2, 0, 40).due(first, name, 0).refused(Run.INDEX, name, 1));
    }

    private static void isContent() {
        Check.test("promise 33: from the lower bound on", () -> new Run().baths(1).fill(0, Run.WARM, 1)
                .does("addDuck", 0, 40, 99).does("addDuck", 0, 41, 99).due(true, "isContent", 0)
                .due(false, "isContent", 1));
        Check.test("promise 33: up to the upper bound", () -> new Run().baths(1).fill(0, Run.WARM, 1)
                .does("addDuck", 0, 0, 40).does("addDuck", 0, 0, 39).due(true, "isContent", 0)
                .due(false, "isContent", 1));
        Check.test("promise 33: the rounded temperature counts, not the exact one", () -> new Run().baths(1)
                .fill(0, Run.COLD, 33).fill(0, Run.WARM, 65).does("addDuck", 0, 0, 29).does("addDuck", 0, 30, 99)
                .does("addDuck", 0, 29, 29).due(true, "isContent", 0).due(false, "isContent", 1)
                .due(true, "isContent", 2));
        Check.test("promise 33: not without water, even from 0 on", () -> new Run().baths(2).does("addDuck", 0, 0, 99)
                .does("addDuck", 0, 0, 0).due(false, "isContent", 0).due(false, "isContent", 1).fill(0, Run.HOT, 1)
                .due(true, "isContent", 0).does("pour", 0, 1, 1).due(false, "isContent", 0));
    }

    private static void quacksAtMoments() {
        Check.test("promise 34: a duck that is added content quacks at the next moment", () -> new Run().baths(2)
                .fill(0, Run.WARM, 1).does("addDuck", 0, 40, 40).due(0, "quacks", 0).fill(1, Run.HOT, 1)
                .due(0, "quacks", 0).fill(0, Run.HOT, 1).due(1, "quacks", 0));
        Check.test("promise 34: a duck that is added discontent does not", () -> new Run().baths(1)
                .fill(0, Run.WARM, 1).does("addDuck", 0, 41, 99).fill(0, Run.COLD, 1).due(0, "quacks", 0)
                .fill(0, Run.COLD, 1).due(0, "quacks", 0));
        Check.test("promise 34: without water when it was added, content then, discontent then", () -> new Run().baths(1)
                .does("addDuck", 0, 40, 40).due(0, "quacks", 0).fill(0, Run.WARM, 1).due(0, "quacks", 0)
                .fill(0, Run.HOT, 1).due(1, "quacks", 0).fill(0, Run.HOT, 1).due(1, "quacks", 0));
        Check.test("promise 34: at the end of runTap", () -> new Run().baths(1).fill(0, Run.WARM, 1)
                .does("addDuck", 0, 40, 40).does("runTap", 0, Run.COLD, 1).due(1, "quacks", 0));
        Check.test("promise 34: at the end of pour, of both baths' ducks", () -> new Run().baths(2).fill(0, Run.WARM, 1)
                .fill(1, Run.COLD, 1).does("addDuck", 0, 40, 40).does("addDuck", 1, 10, 10).does("pour", 0, 1, 1)
                .due(1, "quacks", 0).due(1, "quacks", 1));
        Check.test("promise 34: after each tick of advance, twice in one call", () -> new Run().baths(2)
                .fill(0, Run.WARM, 1).fill(1, Run.WARM, 10).does("join", 0).does("join", 1).fill(1, Run.HOT, 10)
                .does("addDuck", 0, 39, 41).does("advance", 20).due(2, "quacks", 0));
        Check.test("promise 34: content in ticks alone, before and after discontent", () -> new Run().baths(1)
                .fill(0, Run.HOT, 10).does("addDuck", 0, 60, 65).does("advance", 3).due(false, "isContent", 0)
                .due(1, "quacks", 0));
        Check.test("promise 34: at the end of each tap and pour in a script", () -> new Run().baths(2)
                .does("addDuck", 0, 40, 40).scriptDue(4, "tap 0 w 9;tap 0 h 9;tap 0 c 9;pour 0 1 9").due(1, "quacks", 0)
                .due(true, "isContent", 0).scriptDue(2, "pour 0 1 18;tap 0 w 1").due(2, "quacks", 0)
                .due(true, "isContent", 0));
        Check.test("promise 34: after each tick in a script", () -> new Run().baths(1).fill(0, Run.HOT, 10)
                .scriptDue(2, "duck 0 60 65;tick 3").due(1, "quacks", 0));
        Check.test("promise 34: all 6 ducks of a bath quack at once", () -> {
            Run x = new Run().baths(2).fill(0, Run.WARM, 1);
            for (int i = 0; i < 6; i++) {
                x.does("addDuck", 0, 30 + i, 50);
            }
            x.does("pour", 0, 1, 1);
            for (int i = 0; i < 6; i++) {
                x.due(1, "quacks", i);
            }
        });
    }

    private static void quacksAtNoMoment() {
        Check.test("promise 34: joining, leaving, plugs, new baths and ducks are no moments", () -> new Run().baths(1)
                .fill(0, Run.WARM, 1).does("addDuck", 0, 40, 40).does("join", 0).does("leave", 0)
                .does("setPlug", 0, Run.OUT).does("addBath").does("addDuck", 0, 0, 99).due(0, "quacks", 0));
        Check.test("promise 34: a refused call is no moment", () -> new Run().baths(1).fill(0, Run.WARM, 1)
                .does("addDuck", 0, 40, 40).refused(Run.ARGUMENT, "runTap", 0, Run.COLD, 21)
                .refused(Run.ARGUMENT, "advance", 21).scriptRefused(Run.STATE, "tap 0 c 9;tick 20;join 1")
                .due(0, "quacks", 0).due(true, "isContent", 0).fill(0, Run.WARM, 1).due(0, "quacks", 0));
        Check.test("promise 34: predictions are no moments", () -> new Run().baths(1).fill(0, Run.WARM, 2)
                .does("join", 0).does("addDuck", 0, 40, 40).does("heatAfter", 0, 60).does("ticksUntilDefection", 0)
                .due(0, "quacks", 0).fill(0, Run.WARM, 1).due(0, "quacks", 0));
        Check.test("promise 34: quacks are undone with their change", () -> new Run().baths(1).fill(0, Run.WARM, 1)
                .does("addDuck", 0, 40, 40).fill(0, Run.COLD, 1).due(1, "quacks", 0).does("undo").due(0, "quacks", 0)
                .fill(0, Run.COLD, 1).due(1, "quacks", 0));
    }

    private static void ranks(Run x, int... ducks) {
        for (int rank = 0; rank < ducks.length; rank++) {
            x.due(ducks[rank], "duckByQuacks", rank);
        }
    }

    private static void duckByQuacks() {
        Check.test("promise 35: ranks from 0 to the number of ducks less 1", () -> {
            Run x = new Run().baths(1).refused(Run.ELEMENT, "duckByQuacks", 0).does("addDuck", 0, 0, 99)
                    .due(0, "duckByQuacks", 0).refused(Run.ELEMENT, "duckByQuacks", 1);
            for (int i = 1; i < 6; i++) {
                x.does("addDuck", 0, 0, 99);
            }
            x.due(5, "duckByQuacks", 5).refused(Run.ELEMENT, "duckByQuacks", 6).refused(Run.ELEMENT, "duckByQuacks", -1)
                    .refused(Run.ELEMENT, "duckByQuacks", LOWEST).refused(Run.ELEMENT, "duckByQuacks", HIGHEST);
        });
        Check.test("promise 35: as many quacks, content or not alike: by index", () -> ranks(new Run().baths(1)
                .does("addDuck", 0, 0, 99).does("addDuck", 0, 0, 99).does("addDuck", 0, 0, 99), 0, 1, 2));
        Check.test("promise 35: as many quacks: content ones first, then by index", () -> ranks(new Run().baths(2)
                .fill(1, Run.WARM, 1).does("addDuck", 0, 0, 99).does("addDuck", 1, 0, 99).does("addDuck", 0, 0, 99)
                .does("addDuck", 1, 40, 40), 1, 3, 0, 2));
        Check.test("promise 35: more quacks come before content", () -> ranks(new Run().baths(1).fill(0, Run.WARM, 1)
                .does("addDuck", 0, 0, 99).does("addDuck", 0, 40, 40).fill(0, Run.HOT, 1).due(1, "quacks", 1)
                .due(true, "isContent", 0).due(false, "isContent", 1), 1, 0));
        Check.test("promise 35: two quacks come before one", () -> ranks(new Run().baths(2).fill(0, Run.WARM, 1)
                .fill(1, Run.WARM, 1).does("addDuck", 0, 40, 40).does("addDuck", 1, 40, 40).fill(0, Run.HOT, 1)
                .fill(1, Run.HOT, 1).fill(1, Run.COLD, 1).fill(1, Run.HOT, 1).due(1, "quacks", 0).due(2, "quacks", 1),
                1, 0));
    }
}
