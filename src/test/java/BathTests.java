import java.util.NoSuchElementException;

/** Promises 10 to 19: the queries about baths. */
final class BathTests {
    private static final Class<IndexOutOfBoundsException> INDEX = IndexOutOfBoundsException.class;
    private static final Class<IllegalArgumentException> ARGUMENT = IllegalArgumentException.class;
    private static final Class<NoSuchElementException> ELEMENT = NoSuchElementException.class;
    private static final Class<UnsupportedOperationException> UNSUPPORTED = UnsupportedOperationException.class;

    private BathTests() {
    }

    static void run() {
        Check.test("promise 10: bathCount", BathTests::bathCount);
        Check.test("promises 11 and 12: volume and heat", BathTests::volumeAndHeat);
        Check.test("promises 13 and 14: temperature and exactTemperature", BathTests::temperatures);
        Check.test("promise 15: isWarmer", BathTests::isWarmer);
        Check.test("promise 16: isPlugged", BathTests::isPlugged);
        Check.test("promise 17: bathByTemperature", BathTests::bathByTemperature);
        Check.test("promises 18 and 19: the smallest number of litres", BathTests::litres);
        Check.test("promises 18 and 19: what cannot be reached", BathTests::litresOutOfReach);
        Check.test("promises 18 and 19: wrong calls", BathTests::litresRefuse);
        Check.test("promises 18 and 19: both ways agree", BathTests::litresAgree);
    }

    private static void bathCount() {
        BathLeague x = new BathLeague();
        for (int i = 0; i < 5; i++) {
            Check.due("bathCount", x.bathCount(), i);
            x.addBath();
        }
        Check.due("bathCount", x.bathCount(), 5);
    }

    private static void volumeAndHeat() {
        BathLeague x = Leagues.withBaths(2);
        x.runTap(1, Leagues.HOT, 3);
        Check.due("volume(0)", x.volume(0), 0);
        Check.due("volume(1)", x.volume(1), 3);
        Check.due("heat(0)", x.heat(0), 0);
        Check.due("heat(1)", x.heat(1), 210);
        Check.refused("volume(2)", INDEX, () -> x.volume(2));
        Check.refused("volume(-1)", INDEX, () -> x.volume(-1));
        Check.refused("volume(5)", INDEX, () -> x.volume(5));
        Check.refused("heat(2)", INDEX, () -> x.heat(2));
        Check.refused("heat(-1)", INDEX, () -> x.heat(-1));
        Check.refused("heat(5)", INDEX, () -> x.heat(5));
    }

    private static void temperatures() {
        BathLeague x = Leagues.withBaths(2);
        x.runTap(0, Leagues.HOT, 2);
        x.runTap(0, Leagues.COLD, 5);
        Check.due("190 units in 7 litres", x.temperature(0), 27);
        Check.due("190 units in 7 litres", x.exactTemperature(0), 190.0 / 7.0);
        Check.refused("temperature without water", ELEMENT, () -> x.temperature(1));
        Check.refused("temperature(2)", INDEX, () -> x.temperature(2));
        Check.refused("temperature(-1)", INDEX, () -> x.temperature(-1));
        Check.refused("exactTemperature without water", ELEMENT, () -> x.exactTemperature(1));
        Check.refused("exactTemperature(2)", INDEX, () -> x.exactTemperature(2));
        Check.refused("exactTemperature(-1)", INDEX, () -> x.exactTemperature(-1));
    }

    private static void isWarmer() {
        BathLeague x = Leagues.withBaths(4);
        x.runTap(0, Leagues.WARM, 20);
        x.runTap(0, Leagues.HOT, 1);
        x.runTap(1, Leagues.WARM, 19);
        x.runTap(1, Leagues.HOT, 1);
        x.runTap(2, Leagues.WARM, 19);
        x.runTap(2, Leagues.HOT, 1);
        Check.due("870 / 21 and 830 / 20", x.isWarmer(0, 1), false);
        Check.due("830 / 20 and 870 / 21", x.isWarmer(1, 0), true);
        Check.due("equal ones", x.isWarmer(1, 2), false);
        Check.due("one with itself", x.isWarmer(1, 1), false);
        Check.refused("first without water", ELEMENT, () -> x.isWarmer(3, 0));
        Check.refused("second without water", ELEMENT, () -> x.isWarmer(0, 3));
        Check.refused("both without water", ELEMENT, () -> x.isWarmer(3, 3));
        Check.refused("first -1", INDEX, () -> x.isWarmer(-1, 0));
        Check.refused("second 4", INDEX, () -> x.isWarmer(0, 4));
        Check.refused("second 4, first without water", INDEX, () -> x.isWarmer(3, 4));
        Check.refused("first 4, second without water", INDEX, () -> x.isWarmer(4, 3));
    }

    private static void isPlugged() {
        BathLeague x = Leagues.withBaths(2);
        x.setPlug(1, false);
        Check.due("isPlugged(0)", x.isPlugged(0), true);
        Check.due("isPlugged(1)", x.isPlugged(1), false);
        Check.refused("isPlugged(2)", INDEX, () -> x.isPlugged(2));
        Check.refused("isPlugged(-1)", INDEX, () -> x.isPlugged(-1));
    }

    private static String order(BathLeague x) {
        StringBuilder order = new StringBuilder();
        for (int i = 0; i < x.bathCount(); i++) {
            order.append(x.bathByTemperature(i));
        }
        return order.toString();
    }

    private static void bathByTemperature() {
        BathLeague x = Leagues.withBaths(5);
        Check.due("all without water", order(x), "01234");
        x.runTap(4, Leagues.COLD, 1);
        Check.due("one with water", order(x), "40123");
        x.runTap(2, Leagues.COLD, 7);
        Check.due("two equal ones", order(x), "24013");
        x.runTap(3, Leagues.HOT, 1);
        Check.due("a warmer one", order(x), "32401");
        x.runTap(4, Leagues.HOT, 1);
        x.runTap(1, Leagues.WARM, 20);
        Check.due("40 degrees twice", order(x), "31420");
        x.runTap(1, Leagues.HOT, 1);
        x.runTap(4, Leagues.WARM, 18);
        x.runTap(4, Leagues.HOT, 1);
        Check.due("870 / 21 before 870 / 21", order(x), "31420");
        x.pour(4, 0, 1);
        Check.due("830 / 20 before 870 / 21 before 41", order(x), "34" + "10" + "2");
        Check.refused("rank -1", ELEMENT, () -> x.bathByTemperature(-1));
        Check.refused("rank 5", ELEMENT, () -> x.bathByTemperature(5));
        Check.refused("rank 0 of none", ELEMENT, () -> new BathLeague().bathByTemperature(0));
    }

    private static void dueLitres(BathLeague x, int tap, int target, int want) {
        String call = "(0, " + tap + ", " + target + ")";
        Check.due("litresToReach" + call, x.litresToReach(0, tap, target), want);
        Check.due("litresToReachByFormula" + call, x.litresToReachByFormula(0, tap, target), want);
    }

    private static void litres() {
        BathLeague x = Leagues.withBaths(1);
        Leagues.fill(x, 0, Leagues.WARM, 40);
        dueLitres(x, Leagues.COLD, 40, 0);
        dueLitres(x, Leagues.COLD, 99, 0);
        dueLitres(x, Leagues.COLD, 39, 1);
        dueLitres(x, Leagues.COLD, 30, 18);
        dueLitres(x, Leagues.COLD, 25, 36);
        dueLitres(x, Leagues.HOT, 40, 0);
        dueLitres(x, Leagues.HOT, 0, 0);
        dueLitres(x, Leagues.HOT, 41, 2);
        dueLitres(x, Leagues.HOT, 50, 20);
        dueLitres(x, Leagues.HOT, 58, 60);
        dueLitres(x, Leagues.WARM, 40, 0);
        String before = Leagues.stateOf(x);
        x.litresToReach(0, Leagues.HOT, 55);
        x.litresToReachByFormula(0, Leagues.HOT, 55);
        Check.due("the state", Leagues.stateOf(x), before);
    }

    private static void dueOutOfReach(BathLeague x, int tap, int target) {
        String call = "(0, " + tap + ", " + target + ")";
        Check.refused("litresToReach" + call, UNSUPPORTED, () -> x.litresToReach(0, tap, target));
        Check.refused("litresToReachByFormula" + call, UNSUPPORTED, () -> x.litresToReachByFormula(0, tap, target));
    }

    private static void litresOutOfReach() {
        BathLeague x = Leagues.withBaths(1);
        Leagues.fill(x, 0, Leagues.WARM, 40);
        dueOutOfReach(x, Leagues.HOT, 59);
        dueOutOfReach(x, Leagues.HOT, 70);
        dueOutOfReach(x, Leagues.HOT, 71);
        dueOutOfReach(x, Leagues.HOT, 99);
        dueOutOfReach(x, Leagues.WARM, 41);
        dueOutOfReach(x, Leagues.COLD, 9);
        dueOutOfReach(x, Leagues.COLD, 0);
        dueOutOfReach(x, Leagues.COLD, 10);
        Leagues.fill(x, 0, Leagues.WARM, 60);
        dueLitres(x, Leagues.HOT, 40, 0);
        dueOutOfReach(x, Leagues.HOT, 41);
        dueOutOfReach(x, Leagues.COLD, 39);
    }

    private static void dueRefusal(BathLeague x, int bath, int tap, int target, Class<? extends RuntimeException> want) {
        String call = "(" + bath + ", " + tap + ", " + target + ")";
        Check.refused("litresToReach" + call, want, () -> x.litresToReach(bath, tap, target));
        Check.refused("litresToReachByFormula" + call, want, () -> x.litresToReachByFormula(bath, tap, target));
    }

    private static void litresRefuse() {
        BathLeague x = Leagues.withBaths(2);
        x.runTap(0, Leagues.WARM, 20);
        dueRefusal(x, 2, 0, 50, INDEX);
        dueRefusal(x, -1, 0, 50, INDEX);
        dueRefusal(x, 2, 3, 100, INDEX);
        dueRefusal(x, 0, -1, 50, ARGUMENT);
        dueRefusal(x, 0, 3, 50, ARGUMENT);
        dueRefusal(x, 0, 0, -1, ARGUMENT);
        dueRefusal(x, 0, 0, 100, ARGUMENT);
        dueRefusal(x, 1, 3, 50, ARGUMENT);
        dueRefusal(x, 1, 1, 100, ARGUMENT);
        dueRefusal(x, 1, 1, 99, ELEMENT);
        dueRefusal(x, 1, 0, 99, ELEMENT);
        dueRefusal(x, 0, 1, 99, UNSUPPORTED);
    }

    private static void litresAgree() {
        for (int cold = 0; cold <= 5; cold++) {
            for (int hot = 0; hot <= 5; hot++) {
                BathLeague x = Leagues.withBaths(1);
                Leagues.fill(x, 0, Leagues.WARM, 1 + 13 * cold);
                Leagues.fill(x, 0, Leagues.COLD, cold);
                Leagues.fill(x, 0, Leagues.HOT, 5 * hot);
                agreeOnAll(x);
            }
        }
    }

    private static void agreeOnAll(BathLeague x) {
        for (int tap = 0; tap <= 2; tap++) {
            for (int target = 0; target <= 99; target++) {
                int kind = tap;
                int degrees = target;
                Check.due("tap " + tap + " to " + target + " for " + Leagues.stateOf(x),
                        Check.outcome(() -> x.litresToReachByFormula(0, kind, degrees)),
                        Check.outcome(() -> x.litresToReach(0, kind, degrees)));
            }
        }
    }
}
