/** Promises 10 to 19 at their edges: a test for each sentence that names one. */
final class BathEdgeTests {
    private static final int LOWEST = Integer.MIN_VALUE;
    private static final int HIGHEST = Integer.MAX_VALUE;
    private static final String[] BOTH_WAYS = {"litresToReach", "litresToReachByFormula"};

    private BathEdgeTests() {
    }

    static void run() {
        Check.test("promise 10: bathCount from 0 to 5", () -> {
            Run x = new Run().due(0, "bathCount");
            for (int i = 1; i <= 5; i++) {
                x.does("addBath").due(i, "bathCount");
            }
            x.refused(Run.STATE, "addBath").due(5, "bathCount");
        });
        indices("promise 11", "volume", 20);
        indices("promise 12", "heat", 800);
        indices("promise 13", "temperature", 40);
        indices("promise 14", "exactTemperature", 40.0);
        indices("promise 16", "isPlugged", true);
        amounts();
        temperatures();
        isWarmer();
        bathByTemperature();
        for (String name : BOTH_WAYS) {
            String promise = name.equals("litresToReach") ? "promise 18" : "promise 19";
            planArguments(promise, name);
            planReach(promise, name);
            planBrim(promise, name);
        }
    }

    private static void indices(String promise, String name, Object want) {
        Check.test(promise + ": the first and the last bath, and none beside them", () -> new Run().baths(3)
                .fill(0, 1, 20).fill(1, 2, 5).fill(2, 1, 20).due(want, name, 0).due(want, name, 2)
                .refused(Run.INDEX, name, -1).refused(Run.INDEX, name, 3).refused(Run.INDEX, name, 5)
                .refused(Run.INDEX, name, LOWEST).refused(Run.INDEX, name, HIGHEST));
        Check.test(promise + ": bath 4 of 5, and not 5", () -> new Run().baths(5).fill(4, 1, 20).due(want, name, 4)
                .refused(Run.INDEX, name, 5));
        Check.test(promise + ": no bath at all", () -> new Run().refused(Run.INDEX, name, 0));
    }

    private static void amounts() {
        Check.test("promise 11: from 0 to 100 litres", () -> new Run().baths(1).due(0, "volume", 0).fill(0, 1, 100)
                .due(100, "volume", 0));
        Check.test("promise 12: without water, heat 0: from the beginning on", () -> new Run().baths(1)
                .due(0, "heat", 0));
        Check.test("promise 12: without water, heat 0: poured out", () -> new Run().baths(2).fill(0, Run.HOT, 3)
                .does("pour", 0, 1, 3).due(0, "heat", 0));
        Check.test("promise 12: without water, heat 0: run out", () -> new Run().baths(1).fill(0, Run.HOT, 7)
                .does("setPlug", 0, Run.OUT).does("advance", 3).due(0, "volume", 0).due(0, "heat", 0));
        Check.test("promise 12: the heat of 100 hot litres", () -> new Run().baths(1).fill(0, Run.HOT, 100)
                .due(7000, "heat", 0));
    }

    private static void temperatures() {
        Check.test("promise 13: no temperature without water", () -> new Run().baths(2)
                .refused(Run.ELEMENT, "temperature", 0).fill(0, Run.HOT, 1).due(70, "temperature", 0)
                .does("pour", 0, 1, 1).refused(Run.ELEMENT, "temperature", 0).due(70, "temperature", 1));
        Check.test("promise 13: 2930 / 98 is 29, not 30", () -> new Run().baths(1).fill(0, Run.COLD, 33)
                .fill(0, Run.WARM, 65).due(29, "temperature", 0));
        Check.test("promise 13: 10 degrees of one litre, 70 of a hundred", () -> new Run().baths(2)
                .fill(0, Run.COLD, 1).fill(1, Run.HOT, 100).due(10, "temperature", 0).due(70, "temperature", 1));
        Check.test("promise 14: no exact temperature without water", () -> new Run().baths(2)
                .refused(Run.ELEMENT, "exactTemperature", 0).fill(0, Run.HOT, 1).due(70.0, "exactTemperature", 0)
                .does("pour", 0, 1, 1).refused(Run.ELEMENT, "exactTemperature", 0));
        Check.test("promise 14: 2930 / 98 is a quotient of doubles", () -> new Run().baths(1).fill(0, Run.COLD, 33)
                .fill(0, Run.WARM, 65).due(2930.0 / 98.0, "exactTemperature", 0));
        Check.test("promise 14: 250 / 7 is no float", () -> new Run().baths(1)
                .fill(0, Run.COLD, 2).fill(0, Run.HOT, 1).fill(0, Run.WARM, 4).due(250.0 / 7.0, "exactTemperature", 0));
    }

    private static void isWarmer() {
        Check.test("promise 15: equal ones are not warmer", () -> new Run().baths(2).fill(0, Run.WARM, 7)
                .fill(1, Run.WARM, 20).due(false, "isWarmer", 0, 1).due(false, "isWarmer", 1, 0)
                .due(false, "isWarmer", 0, 0));
        Check.test("promise 15: warmer by a part of a degree", () -> new Run().baths(2).fill(0, Run.WARM, 98)
                .fill(0, Run.HOT, 1).fill(1, Run.WARM, 99).fill(1, Run.HOT, 1).due(40, "temperature", 0)
                .due(40, "temperature", 1).due(true, "isWarmer", 0, 1).due(false, "isWarmer", 1, 0));
        Check.test("promise 15: more heat in more litres is not warmer", () -> new Run().baths(2).fill(0, Run.HOT, 1)
                .fill(1, Run.COLD, 20).due(true, "isWarmer", 0, 1).due(false, "isWarmer", 1, 0));
        Check.test("promise 15: no such bath, for either argument", () -> new Run().baths(2).fill(0, 1, 1).fill(1, 1, 1)
                .due(false, "isWarmer", 0, 1).refused(Run.INDEX, "isWarmer", -1, 0)
                .refused(Run.INDEX, "isWarmer", 2, 0).refused(Run.INDEX, "isWarmer", 0, -1)
                .refused(Run.INDEX, "isWarmer", 0, 2).refused(Run.INDEX, "isWarmer", LOWEST, HIGHEST));
        Check.test("promise 15: no water in the first, the second, or both", () -> new Run().baths(3).fill(0, 1, 1)
                .refused(Run.ELEMENT, "isWarmer", 1, 0).refused(Run.ELEMENT, "isWarmer", 0, 1)
                .refused(Run.ELEMENT, "isWarmer", 1, 2).refused(Run.ELEMENT, "isWarmer", 1, 1));
        Check.test("promise 15: no such bath comes before no water", () -> new Run().baths(2)
                .refused(Run.INDEX, "isWarmer", 0, 2).refused(Run.INDEX, "isWarmer", 2, 0)
                .refused(Run.INDEX, "isWarmer", 0, -1));
    }

    private static void bathByTemperature() {
        Check.test("promise 17: ranks from 0 to the number of baths less 1", () -> new Run()
                .refused(Run.ELEMENT, "bathByTemperature", 0).baths(1).due(0, "bathByTemperature", 0)
                .refused(Run.ELEMENT, "bathByTemperature", 1).baths(4).due(4, "bathByTemperature", 4)
                .refused(Run.ELEMENT, "bathByTemperature", 5).refused(Run.ELEMENT, "bathByTemperature", -1)
                .refused(Run.ELEMENT, "bathByTemperature", LOWEST).refused(Run.ELEMENT, "bathByTemperature", HIGHEST));
        Check.test("promise 17: warmest first", () -> ranks(new Run().baths(3).fill(0, Run.COLD, 20)
                .fill(1, Run.HOT, 1).fill(2, Run.WARM, 5), 1, 2, 0));
        Check.test("promise 17: equally warm ones by index", () -> ranks(new Run().baths(4).fill(0, Run.COLD, 1)
                .fill(1, Run.WARM, 20).fill(2, Run.WARM, 1).fill(3, Run.WARM, 7), 1, 2, 3, 0));
        Check.test("promise 17: a part of a degree counts", () -> ranks(new Run().baths(2).fill(0, Run.WARM, 99)
                .fill(0, Run.HOT, 1).fill(1, Run.WARM, 98).fill(1, Run.HOT, 1), 1, 0));
        Check.test("promise 17: without water last, by index", () -> ranks(new Run().baths(5).fill(1, Run.COLD, 1)
                .fill(3, Run.HOT, 1), 3, 1, 0, 2, 4));
        Check.test("promise 17: all without water, by index", () -> ranks(new Run().baths(5), 0, 1, 2, 3, 4));
        Check.test("promise 17: members are ranked like others", () -> ranks(new Run().baths(2).fill(0, Run.WARM, 1)
                .fill(1, Run.HOT, 1).does("join", 0), 1, 0));
    }

    private static void ranks(Run x, int... baths) {
        for (int rank = 0; rank < baths.length; rank++) {
            x.due(baths[rank], "bathByTemperature", rank);
        }
    }

    private static void planArguments(String promise, String name) {
        Check.test(promise + ": the first and the last bath, and none beside them", () -> new Run().baths(3)
                .fill(0, 1, 10).fill(2, 1, 10).due(0, name, 0, Run.WARM, 40).due(0, name, 2, Run.WARM, 40)
                .refused(Run.INDEX, name, -1, Run.WARM, 40).refused(Run.INDEX, name, 3, Run.WARM, 40)
                .refused(Run.INDEX, name, LOWEST, Run.WARM, 40).refused(Run.INDEX, name, HIGHEST, Run.WARM, 40));
        Check.test(promise + ": taps from 0 to 2", () -> new Run().baths(1).fill(0, 1, 10).due(0, name, 0, 0, 40)
                .due(0, name, 0, 2, 40).refused(Run.ARGUMENT, name, 0, -1, 40).refused(Run.ARGUMENT, name, 0, 3, 40)
                .refused(Run.ARGUMENT, name, 0, LOWEST, 40).refused(Run.ARGUMENT, name, 0, HIGHEST, 40));
        Check.test(promise + ": targets from 0 to 99", () -> new Run().baths(1).fill(0, 1, 10)
                .due(0, name, 0, Run.HOT, 0).due(0, name, 0, Run.COLD, 99).refused(Run.ARGUMENT, name, 0, Run.HOT, -1)
                .refused(Run.ARGUMENT, name, 0, Run.COLD, 100).refused(Run.ARGUMENT, name, 0, Run.HOT, LOWEST)
                .refused(Run.ARGUMENT, name, 0, Run.COLD, HIGHEST)
                .refused(Run.UNSUPPORTED, name, 0, Run.COLD, 0).refused(Run.UNSUPPORTED, name, 0, Run.HOT, 99));
        Check.test(promise + ": no water", () -> new Run().baths(1).refused(Run.ELEMENT, name, 0, Run.COLD, 99)
                .refused(Run.ELEMENT, name, 0, Run.HOT, 0).fill(0, 1, 1).due(0, name, 0, Run.HOT, 0));
        Check.test(promise + ": no such bath comes before wrong arguments", () -> new Run().baths(1)
                .refused(Run.INDEX, name, 1, 3, 40).refused(Run.INDEX, name, 1, 0, 100));
        Check.test(promise + ": wrong arguments come before no water", () -> new Run().baths(1)
                .refused(Run.ARGUMENT, name, 0, 3, 40).refused(Run.ARGUMENT, name, 0, 0, 100)
                .refused(Run.ARGUMENT, name, 0, 0, -1));
        Check.test(promise + ": no water comes before no number of litres", () -> new Run().baths(1)
                .refused(Run.ELEMENT, name, 0, Run.COLD, 0).refused(Run.ELEMENT, name, 0, Run.HOT, 99));
    }

    private static void planReach(String promise, String name) {
        Check.test(promise + ": cold, at most the target: 0 litres where it is met", () -> new Run().baths(1)
                .fill(0, Run.WARM, 20).due(0, name, 0, Run.COLD, 41).due(0, name, 0, Run.COLD, 40)
                .due(1, name, 0, Run.COLD, 39));
        Check.test(promise + ": cold: 40 and a part are at most 40", () -> new Run().baths(1).fill(0, Run.WARM, 30)
                .fill(0, Run.HOT, 1).due(0, name, 0, Run.COLD, 40).due(2, name, 0, Run.COLD, 39));
        Check.test(promise + ": cold: the 14th litre makes 13 degrees, the 15th 12 and a part", () -> new Run().baths(1)
                .fill(0, Run.COLD, 5).fill(0, Run.HOT, 1).due(20, "temperature", 0).due(15, name, 0, Run.COLD, 12));
        Check.test(promise + ": warm, at least the target: 0 litres where it is met", () -> new Run().baths(1)
                .fill(0, Run.COLD, 10).fill(0, Run.WARM, 5).due(20, "temperature", 0).due(0, name, 0, Run.WARM, 19)
                .due(0, name, 0, Run.WARM, 20).due(1, name, 0, Run.WARM, 21));
        Check.test(promise + ": hot, at least the target: 0 litres where it is met", () -> new Run().baths(1)
                .fill(0, Run.WARM, 20).due(0, name, 0, Run.HOT, 39).due(0, name, 0, Run.HOT, 40)
                .due(1, name, 0, Run.HOT, 41));
        Check.test(promise + ": warm beside hot water: 40 degrees are met, 41 never", () -> new Run().baths(1)
                .fill(0, Run.WARM, 20).due(0, name, 0, Run.WARM, 40).refused(Run.UNSUPPORTED, name, 0, Run.WARM, 41));
        Check.test(promise + ": hot water and the warm tap: met without a litre", () -> new Run().baths(1)
                .fill(0, Run.HOT, 20).due(0, name, 0, Run.WARM, 70).refused(Run.UNSUPPORTED, name, 0, Run.WARM, 71));
        Check.test(promise + ": cold: 10 degrees can be reached, 9 never", () -> new Run().baths(1)
                .fill(0, Run.HOT, 1).due(60, name, 0, Run.COLD, 10).refused(Run.UNSUPPORTED, name, 0, Run.COLD, 9));
        Check.test(promise + ": hot: 69 degrees can be reached, 70 never", () -> new Run().baths(1)
                .fill(0, Run.COLD, 1).due(59, name, 0, Run.HOT, 69).refused(Run.UNSUPPORTED, name, 0, Run.HOT, 70));
        Check.test(promise + ": warm and hot: one unit of heat short of the target is not there", () -> new Run()
                .baths(1).fill(0, Run.COLD, 1).fill(0, Run.WARM, 1).does("advance", 1).due(49, "heat", 0)
                .due(1, name, 0, Run.WARM, 25).due(1, name, 0, Run.HOT, 25).due(0, name, 0, Run.HOT, 24));
        Check.test(promise + ": cold: one unit of heat below the next degree is enough", () -> new Run().baths(1)
                .fill(0, Run.COLD, 1).fill(0, Run.WARM, 1).due(1, name, 0, Run.COLD, 24).does("advance", 1)
                .due(49, "heat", 0).due(0, name, 0, Run.COLD, 24).due(1, name, 0, Run.COLD, 23));
        Check.test(promise + ": 21 litres, more than one call of runTap allows", () -> new Run().baths(1)
                .fill(0, Run.WARM, 42).due(21, name, 0, Run.HOT, 50));
    }

    private static void planBrim(String promise, String name) {
        Check.test(promise + ": a full bath: 0 litres or none", () -> new Run().baths(1).fill(0, Run.WARM, 100)
                .due(0, name, 0, Run.COLD, 40).refused(Run.UNSUPPORTED, name, 0, Run.COLD, 39)
                .due(0, name, 0, Run.HOT, 40).refused(Run.UNSUPPORTED, name, 0, Run.HOT, 41));
        Check.test(promise + ": 99 litres and one more", () -> new Run().baths(1).fill(0, Run.WARM, 99)
                .due(1, name, 0, Run.COLD, 39).refused(Run.UNSUPPORTED, name, 0, Run.COLD, 38));
        Check.test(promise + ": cold: 73 litres fit beside 27", () -> new Run().baths(1).fill(0, Run.HOT, 26)
                .fill(0, Run.WARM, 1).due(73, name, 0, Run.COLD, 25));
        Check.test(promise + ": cold: 96 litres do not fit beside 5", () -> new Run().baths(1).fill(0, Run.HOT, 5)
                .refused(Run.UNSUPPORTED, name, 0, Run.COLD, 12));
        Check.test(promise + ": warm: 90 litres fit beside 10", () -> new Run().baths(1).fill(0, Run.COLD, 10)
                .due(90, name, 0, Run.WARM, 37));
        Check.test(promise + ": warm: 64 litres do not fit beside 37", () -> new Run().baths(1).fill(0, Run.COLD, 37)
                .refused(Run.UNSUPPORTED, name, 0, Run.WARM, 29));
        Check.test(promise + ": hot: 95 litres fit beside 5", () -> new Run().baths(1).fill(0, Run.COLD, 5)
                .due(95, name, 0, Run.HOT, 67));
        Check.test(promise + ": hot: 82 litres do not fit beside 19", () -> new Run().baths(1).fill(0, Run.COLD, 18)
                .fill(0, Run.WARM, 1).refused(Run.UNSUPPORTED, name, 0, Run.HOT, 59));
    }
}
