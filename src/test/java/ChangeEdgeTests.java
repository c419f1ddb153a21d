/** Promises 1 to 8 at their edges: a test for each sentence that names one. */
final class ChangeEdgeTests {
    private static final int LOWEST = Integer.MIN_VALUE;
    private static final int HIGHEST = Integer.MAX_VALUE;

    private ChangeEdgeTests() {
    }

    static void run() {
        Check.test("promise 1: without baths and ducks", ChangeEdgeTests::nothingThere);
        Check.test("promise 1: at time 0", () -> new Run().due(0, "time"));
        addBath();
        runTap();
        setPlug();
        pourArguments();
        pourAmounts();
        addDuck();
        join();
        leave();
    }

    private static void nothingThere() {
        Run x = new Run().due(0, "bathCount").due(0, "duckCount").due(0, "memberCount").due(0, "eventCount")
                .due(0, "leagueHeat").due(0, "leagueHeatByOthers").due(true, "isConsistent");
        for (String name : new String[] {"volume", "heat", "temperature", "exactTemperature", "isPlugged", "isMember",
            "ticksUntilDefection", "renderBath", "observedBath", "lowerBound", "upperBound", "isContent", "quacks",
            "outputAt", "join", "leave"}) {
            x.refused(Run.INDEX, name, 0);
        }
        for (String name : new String[] {"bathByTemperature", "duckByQuacks", "eventKind", "eventBath", "eventLitres"}) {
            x.refused(Run.ELEMENT, name, 0);
        }
        for (String name : new String[] {"warmestMember", "coldestMember", "sharedHeat", "errorPosition",
            "failedCommand", "undo"}) {
            x.refused(Run.ELEMENT, name);
        }
        x.refused(Run.ARITHMETIC, "contentShare").refused(Run.STATE, "restore").refused(Run.ARGUMENT, "runScript")
                .due(0, "errorPosition");
    }

    private static void addBath() {
        Check.test("promise 2: the fifth bath is the last", () -> new Run().baths(4).due(4, "addBath")
                .refused(Run.STATE, "addBath").refused(Run.STATE, "addBath").due(5, "bathCount"));
        Check.test("promise 2: indices from 0 in the order of adding", () -> new Run().due(0, "addBath")
                .due(1, "addBath").due(2, "addBath").due(3, "addBath").due(4, "addBath"));
        Check.test("promise 2: a bath has 0 litres, 0 heat, its plug, and is no member", () -> {
            Run x = new Run().baths(5);
            for (int i = 0; i < 5; i++) {
                x.due(0, "volume", i).due(0, "heat", i).due(true, "isPlugged", i).due(false, "isMember", i)
                        .refused(Run.ELEMENT, "temperature", i);
            }
        });
        Check.test("promise 2: where a bath was undone, the next one is new", () -> new Run().baths(2)
                .does("runTap", 1, Run.WARM, 5).does("setPlug", 1, Run.OUT).does("join", 1)
                .does("undo").does("undo").does("undo").does("undo").due(1, "bathCount")
                .due(1, "addBath").due(0, "volume", 1).due(0, "heat", 1).due(true, "isPlugged", 1)
                .due(false, "isMember", 1));
        Check.test("promise 2: where a bath is gone by restore, the next one is new", () -> new Run().baths(1)
                .does("save").baths(1).does("runTap", 1, Run.WARM, 5).does("setPlug", 1, Run.OUT).does("join", 1)
                .due(1, "restore").due(1, "addBath").due(0, "volume", 1).due(0, "heat", 1).due(true, "isPlugged", 1)
                .due(false, "isMember", 1));
        Check.test("promise 2: five baths, one undone, leave room for one", () -> new Run().baths(5)
                .refused(Run.STATE, "addBath").does("undo").due(4, "addBath").refused(Run.STATE, "addBath"));
    }

    private static void runTap() {
        Check.test("promise 3: the first and the last bath, and none beside them", () -> new Run().baths(3)
                .due(1, "runTap", 0, 0, 1).due(1, "runTap", 2, 0, 1).refused(Run.INDEX, "runTap", -1, 0, 1)
                .refused(Run.INDEX, "runTap", 3, 0, 1).refused(Run.INDEX, "runTap", LOWEST, 0, 1)
                .refused(Run.INDEX, "runTap", HIGHEST, 0, 1).due(0, "volume", 1));
        Check.test("promise 3: bath 4 of 5, and not 5", () -> new Run().baths(5).due(1, "runTap", 4, 0, 1)
                .refused(Run.INDEX, "runTap", 5, 0, 1));
        Check.test("promise 3: taps from 0 to 2", () -> new Run().baths(1).due(1, "runTap", 0, 0, 1)
                .due(2, "runTap", 0, 2, 1).refused(Run.ARGUMENT, "runTap", 0, -1, 1)
                .refused(Run.ARGUMENT, "runTap", 0, 3, 1).refused(Run.ARGUMENT, "runTap", 0, LOWEST, 1)
                .refused(Run.ARGUMENT, "runTap", 0, HIGHEST, 1).due(2, "volume", 0));
        Check.test("promise 3: cold, warm and hot bring 10, 40 and 70 a litre", () -> new Run().baths(3)
                .does("runTap", 0, 0, 1).does("runTap", 1, 1, 1).does("runTap", 2, 2, 1)
                .due(10, "heat", 0).due(40, "heat", 1).due(70, "heat", 2).does("runTap", 0, 0, 20)
                .does("runTap", 1, 1, 20).does("runTap", 2, 2, 20).due(210, "heat", 0).due(840, "heat", 1)
                .due(1470, "heat", 2));
        Check.test("promise 3: from 1 to 20 litres", () -> new Run().baths(1).due(1, "runTap", 0, 1, 1)
                .due(21, "runTap", 0, 1, 20).refused(Run.ARGUMENT, "runTap", 0, 1, 0)
                .refused(Run.ARGUMENT, "runTap", 0, 1, 21).refused(Run.ARGUMENT, "runTap", 0, 1, -1)
                .refused(Run.ARGUMENT, "runTap", 0, 1, LOWEST).refused(Run.ARGUMENT, "runTap", 0, 1, HIGHEST)
                .due(21, "volume", 0));
        Check.test("promise 3: a full bath has 100 litres, from 99", () -> new Run().baths(1).fill(0, 1, 99)
                .refused(Run.UNSUPPORTED, "runTap", 0, 1, 2).due(100, "runTap", 0, 1, 1)
                .refused(Run.UNSUPPORTED, "runTap", 0, 1, 1).due(100, "volume", 0));
        Check.test("promise 3: a full bath has 100 litres, from 81", () -> new Run().baths(1).fill(0, 1, 81)
                .refused(Run.UNSUPPORTED, "runTap", 0, 1, 20).due(100, "runTap", 0, 1, 19));
        Check.test("promise 3: all 5 baths can be full", () -> {
            Run x = new Run().baths(5);
            for (int i = 0; i < 5; i++) {
                x.fill(i, Run.HOT, 100).due(100, "volume", i).due(7000, "heat", i);
            }
            x.due(500, "tappedLitres").due(35000, "tappedHeat");
        });
        Check.test("promise 3: no such bath comes before a wrong tap and before wrong litres", () -> new Run().baths(1)
                .refused(Run.INDEX, "runTap", 1, 3, 1).refused(Run.INDEX, "runTap", 1, 0, 21)
                .refused(Run.INDEX, "runTap", -1, -1, 0));
        Check.test("promise 3: a wrong tap and wrong litres come before a full bath", () -> new Run().baths(1)
                .fill(0, 1, 100).refused(Run.ARGUMENT, "runTap", 0, 3, 1).refused(Run.ARGUMENT, "runTap", 0, 0, 21)
                .refused(Run.ARGUMENT, "runTap", 0, 0, 0).refused(Run.UNSUPPORTED, "runTap", 0, 0, 20));
    }

    private static void setPlug() {
        Check.test("promise 4: the first and the last bath, and none beside them", () -> new Run().baths(3)
                .due(true, "setPlug", 0, Run.OUT).due(true, "setPlug", 2, Run.OUT).due(true, "isPlugged", 1)
                .refused(Run.INDEX, "setPlug", -1, Run.OUT).refused(Run.INDEX, "setPlug", 3, Run.OUT)
                .refused(Run.INDEX, "setPlug", LOWEST, Run.OUT).refused(Run.INDEX, "setPlug", HIGHEST, Run.OUT));
        Check.test("promise 4: bath 4 of 5, and not 5", () -> new Run().baths(5).due(true, "setPlug", 4, Run.OUT)
                .refused(Run.INDEX, "setPlug", 5, Run.OUT));
        Check.test("promise 4: what was in before, in all four cases", () -> new Run().baths(1)
                .due(true, "setPlug", 0, Run.IN).due(true, "setPlug", 0, Run.OUT).due(false, "setPlug", 0, Run.OUT)
                .due(false, "setPlug", 0, Run.IN).due(true, "isPlugged", 0));
        Check.test("promise 4: a pulled plug alone lets nothing out", () -> new Run().baths(1).fill(0, 1, 5)
                .does("setPlug", 0, Run.OUT).due(5, "volume", 0).due(200, "heat", 0).due(0, "drainedLitres"));
    }

    private static void pourArguments() {
        Check.test("promise 5: the first and the last bath, and none beside them", () -> new Run().baths(3)
                .fill(0, 1, 20).due(40, "pour", 0, 2, 1).due(40, "pour", 2, 0, 1)
                .refused(Run.INDEX, "pour", -1, 0, 1).refused(Run.INDEX, "pour", 3, 0, 1)
                .refused(Run.INDEX, "pour", 0, -1, 1).refused(Run.INDEX, "pour", 0, 3, 1)
                .refused(Run.INDEX, "pour", LOWEST, 0, 1).refused(Run.INDEX, "pour", 0, HIGHEST, 1)
                .refused(Run.INDEX, "pour", 3, 3, 1).due(20, "volume", 0));
        Check.test("promise 5: bath 4 of 5, and not 5", () -> new Run().baths(5).fill(4, 1, 2)
                .due(40, "pour", 4, 0, 1).due(40, "pour", 0, 4, 1).refused(Run.INDEX, "pour", 5, 0, 1)
                .refused(Run.INDEX, "pour", 0, 5, 1));
        Check.test("promise 5: not into the same bath", () -> new Run().baths(2).fill(0, 1, 20)
                .refused(Run.ARGUMENT, "pour", 0, 0, 1).refused(Run.ARGUMENT, "pour", 1, 1, 1).due(20, "volume", 0));
        Check.test("promise 5: from 1 to 99 litres", () -> new Run().baths(3).fill(0, 1, 100)
                .due(40, "pour", 0, 1, 1).due(3960, "pour", 0, 2, 99).refused(Run.ARGUMENT, "pour", 2, 0, 0)
                .refused(Run.ARGUMENT, "pour", 2, 0, 100).refused(Run.ARGUMENT, "pour", 2, 0, -1)
                .refused(Run.ARGUMENT, "pour", 2, 0, LOWEST).refused(Run.ARGUMENT, "pour", 2, 0, HIGHEST)
                .due(99, "volume", 2));
        Check.test("promise 5: 100 litres are too many, even where they are there", () -> new Run().baths(2)
                .fill(0, 1, 100).refused(Run.ARGUMENT, "pour", 0, 1, 100).due(3960, "pour", 0, 1, 99)
                .due(1, "volume", 0));
        Check.test("promise 5: no such bath comes before the other faults", () -> new Run().baths(2)
                .refused(Run.INDEX, "pour", 2, 2, 0).refused(Run.INDEX, "pour", 0, 2, 100)
                .refused(Run.INDEX, "pour", 2, 0, 5).refused(Run.INDEX, "pour", 1, -1, 5));
        Check.test("promise 5: wrong arguments come before too few litres and a full bath", () -> new Run().baths(2)
                .fill(1, 1, 100).refused(Run.ARGUMENT, "pour", 0, 0, 1).refused(Run.ARGUMENT, "pour", 0, 1, 100)
                .refused(Run.ARGUMENT, "pour", 0, 1, 0).refused(Run.ARGUMENT, "pour", 1, 1, 50));
        Check.test("promise 5: too few litres come before a full bath", () -> new Run().baths(2).fill(0, 1, 5)
                .fill(1, 1, 100).refused(Run.ELEMENT, "pour", 0, 1, 6).refused(Run.UNSUPPORTED, "pour", 0, 1, 5));
    }

    private static void pourAmounts() {
        Check.test("promise 5: all litres, and not one more", () -> new Run().baths(2).fill(0, 1, 7)
                .refused(Run.ELEMENT, "pour", 0, 1, 8).due(280, "pour", 0, 1, 7).due(0, "volume", 0)
                .refused(Run.ELEMENT, "pour", 0, 1, 1).due(7, "volume", 1));
        Check.test("promise 5: a bath that is poured out has the heat 0", () -> new Run().baths(2)
                .does("runTap", 0, Run.COLD, 2).does("runTap", 0, Run.WARM, 1).does("advance", 1)
                .does("runTap", 0, Run.HOT, 4).due(340, "pour", 0, 1, 7).due(0, "heat", 0)
                .refused(Run.ELEMENT, "temperature", 0));
        Check.test("promise 5: up to 100 litres, and not 101", () -> new Run().baths(2).fill(0, 1, 20).fill(1, 1, 90)
                .refused(Run.UNSUPPORTED, "pour", 0, 1, 11).due(400, "pour", 0, 1, 10).due(100, "volume", 1)
                .refused(Run.UNSUPPORTED, "pour", 0, 1, 1).due(10, "volume", 0));
        Check.test("promise 5: 99 litres into a bath of 1, and not of 2", () -> new Run().baths(3).fill(0, 1, 100)
                .fill(1, 1, 2).fill(2, 1, 1).refused(Run.UNSUPPORTED, "pour", 0, 1, 99)
                .due(3960, "pour", 0, 2, 99).due(100, "volume", 2));
        Check.test("promise 5: 130 * 3 / 7 units are cut to 55, and multiplied first", () -> new Run().baths(2)
                .fill(0, Run.HOT, 1).fill(0, Run.COLD, 6).due(55, "pour", 0, 1, 3).due(75, "heat", 0)
                .due(55, "heat", 1));
        Check.test("promise 5: heat and volume before the call count, not those after", () -> new Run().baths(2)
                .fill(0, Run.HOT, 1).fill(0, Run.COLD, 2).fill(1, Run.WARM, 1).due(60, "pour", 0, 1, 2)
                .due(30, "heat", 0).due(100, "heat", 1));
    }

    private static void addDuck() {
        Check.test("promise 6: the sixth duck is the last", () -> {
            Run x = new Run().baths(1);
            for (int i = 0; i < 6; i++) {
                x.due(i, "addDuck", 0, 0, 99);
            }
            x.refused(Run.STATE, "addDuck", 0, 0, 99).due(6, "duckCount");
        });
        Check.test("promise 6: the first and the last bath, and none beside them", () -> new Run().baths(3)
                .due(0, "addDuck", 0, 1, 2).due(1, "addDuck", 2, 1, 2).refused(Run.INDEX, "addDuck", -1, 1, 2)
                .refused(Run.INDEX, "addDuck", 3, 1, 2).refused(Run.INDEX, "addDuck", LOWEST, 1, 2)
                .refused(Run.INDEX, "addDuck", HIGHEST, 1, 2).due(2, "duckCount"));
        Check.test("promise 6: bath 4 of 5, and not 5", () -> new Run().baths(5).due(0, "addDuck", 4, 1, 2)
                .refused(Run.INDEX, "addDuck", 5, 1, 2));
        Check.test("promise 6: a lower bound from 0 to 99", () -> new Run().baths(1).due(0, "addDuck", 0, 0, 99)
                .due(1, "addDuck", 0, 99, 99).refused(Run.ARGUMENT, "addDuck", 0, -1, 99)
                .refused(Run.ARGUMENT, "addDuck", 0, 100, 100).refused(Run.ARGUMENT, "addDuck", 0, LOWEST, 99));
        Check.test("promise 6: an upper bound from 0 to 99", () -> new Run().baths(1).due(0, "addDuck", 0, 0, 0)
                .due(1, "addDuck", 0, 0, 99).refused(Run.ARGUMENT, "addDuck", 0, -1, -1)
                .refused(Run.ARGUMENT, "addDuck", 0, 0, 100).refused(Run.ARGUMENT, "addDuck", 0, 0, -1)
                .refused(Run.ARGUMENT, "addDuck", 0, 0, HIGHEST));
        Check.test("promise 6: equal bounds, but not a lower one that is greater", () -> new Run().baths(1)
                .due(0, "addDuck", 0, 40, 40).refused(Run.ARGUMENT, "addDuck", 0, 41, 40)
                .refused(Run.ARGUMENT, "addDuck", 0, 99, 0).due(1, "duckCount"));
        Check.test("promise 6: no such bath, then wrong bounds, then 6 ducks", () -> {
            Run x = new Run().baths(1).refused(Run.INDEX, "addDuck", 1, 41, 40).refused(Run.INDEX, "addDuck", 1, -1, 100);
            for (int i = 0; i < 6; i++) {
                x.does("addDuck", 0, 0, 99);
            }
            x.refused(Run.INDEX, "addDuck", 1, 0, 99).refused(Run.ARGUMENT, "addDuck", 0, 41, 40)
                    .refused(Run.ARGUMENT, "addDuck", 0, 0, 100).refused(Run.STATE, "addDuck", 0, 0, 99);
        });
        Check.test("promise 6: where a duck was undone, the next one is new", () -> new Run().baths(1)
                .fill(0, 1, 5).does("addDuck", 0, 40, 40).does("runTap", 0, Run.HOT, 5).due(1, "quacks", 0)
                .does("undo").does("undo").due(0, "duckCount").due(0, "addDuck", 0, 0, 99).due(0, "quacks", 0)
                .due(0, "lowerBound", 0).due(99, "upperBound", 0));
    }

    private static void join() {
        Check.test("promise 7: 30 degrees may join", () -> new Run().baths(1).fill(0, Run.COLD, 1).fill(0, Run.WARM, 2)
                .due(30, "temperature", 0).due(1, "join", 0));
        Check.test("promise 7: 2930 / 98 degrees may not", () -> new Run().baths(1).fill(0, Run.COLD, 33)
                .fill(0, Run.WARM, 65).due(29, "temperature", 0).refused(Run.UNSUPPORTED, "join", 0));
        Check.test("promise 7: 4410 / 96 degrees may join, which are rounded to 45", () -> new Run().baths(1)
                .fill(0, Run.WARM, 77).fill(0, Run.HOT, 19).due(45, "temperature", 0).due(1, "join", 0));
        Check.test("promise 7: 46 degrees may not", () -> new Run().baths(1).fill(0, Run.WARM, 4).fill(0, Run.HOT, 1)
                .due(46, "temperature", 0).refused(Run.UNSUPPORTED, "join", 0));
        Check.test("promise 7: a bath that never had water may not", () -> new Run().baths(1)
                .refused(Run.UNSUPPORTED, "join", 0).due(0, "memberCount"));
        Check.test("promise 7: a bath that was poured out may not", () -> new Run().baths(2).fill(0, Run.WARM, 1)
                .does("pour", 0, 1, 1).refused(Run.UNSUPPORTED, "join", 0).due(1, "join", 1));
        Check.test("promise 7: all 5 baths, and one litre is enough", () -> {
            Run x = new Run().baths(5);
            for (int i = 0; i < 5; i++) {
                x.does("runTap", i, Run.WARM, 1).due(i + 1, "join", i);
            }
        });
        Check.test("promise 7: the first and the last bath, and none beside them", () -> new Run().baths(3)
                .fill(0, 1, 1).fill(2, 1, 1).due(1, "join", 0).due(2, "join", 2).refused(Run.INDEX, "join", -1)
                .refused(Run.INDEX, "join", 3).refused(Run.INDEX, "join", LOWEST).refused(Run.INDEX, "join", HIGHEST));
        Check.test("promise 7: a member is refused as such, whether warm, hot or without water", () -> new Run().baths(2)
                .fill(0, 1, 1).does("join", 0).refused(Run.STATE, "join", 0).fill(0, Run.HOT, 20)
                .refused(Run.STATE, "join", 0).does("pour", 0, 1, 20).does("pour", 0, 1, 1)
                .refused(Run.STATE, "join", 0).due(1, "memberCount"));
        Check.test("promise 7: one that has left or defected can join again", () -> new Run().baths(1).fill(0, 1, 1)
                .does("join", 0).does("leave", 0).due(1, "join", 0).does("runTap", 0, Run.COLD, 20)
                .due(1, "advance", 1).does("runTap", 0, Run.HOT, 20).due(1, "join", 0));
    }

    private static void leave() {
        Check.test("promise 8: the first and the last bath, and none beside them", () -> new Run().baths(3)
                .fill(0, 1, 1).fill(2, 1, 1).does("join", 0).does("join", 2).refused(Run.INDEX, "leave", -1)
                .refused(Run.INDEX, "leave", 3).refused(Run.INDEX, "leave", LOWEST)
                .refused(Run.INDEX, "leave", HIGHEST).due(1, "leave", 0).due(0, "leave", 2));
        Check.test("promise 8: a bath that never joined is refused", () -> new Run().baths(1).fill(0, 1, 1)
                .refused(Run.STATE, "leave", 0));
        Check.test("promise 8: one that has left is refused", () -> new Run().baths(1).fill(0, 1, 1).does("join", 0)
                .due(0, "leave", 0).refused(Run.STATE, "leave", 0).due(0, "memberCount"));
        Check.test("promise 8: one that has defected is refused", () -> new Run().baths(1).fill(0, 1, 1)
                .does("join", 0).does("runTap", 0, Run.COLD, 20).due(1, "advance", 1).refused(Run.STATE, "leave", 0));
        Check.test("promise 8: a member without water can leave", () -> new Run().baths(2).fill(0, 1, 1)
                .does("join", 0).does("pour", 0, 1, 1).due(0, "leave", 0).due(0, "advance", 1));
        Check.test("promise 8: 5 members leave down to none", () -> {
            Run x = new Run().baths(5);
            for (int i = 0; i < 5; i++) {
                x.does("runTap", i, Run.WARM, 1).does("join", i);
            }
            for (int i = 0; i < 5; i++) {
                x.due(4 - i, "leave", i);
            }
            x.due(0, "defectionTotal");
        });
    }
}
