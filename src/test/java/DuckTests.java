import java.util.NoSuchElementException;

/** Promises 29 to 35: ducks. */
final class DuckTests {
    private static final Class<IndexOutOfBoundsException> INDEX = IndexOutOfBoundsException.class;
    private static final Class<NoSuchElementException> ELEMENT = NoSuchElementException.class;

    private DuckTests() {
    }

    static void run() {
        Check.test("promises 29 to 32: duckCount, observedBath and bounds", DuckTests::ducks);
        Check.test("promise 33: isContent", DuckTests::isContent);
        Check.test("promise 34: quacks after runTap and pour", DuckTests::quacksInCalls);
        Check.test("promise 34: quacks after each tick", DuckTests::quacksInTicks);
        Check.test("promise 34: who does not quack", DuckTests::noQuacks);
        Check.test("promise 35: duckByQuacks", DuckTests::duckByQuacks);
        Check.test("promises 30 to 34: no such duck", DuckTests::noSuchDuck);
    }

    private static void ducks() {
        BathLeague x = Leagues.withBaths(3);
        for (int i = 0; i < 6; i++) {
            Check.due("duckCount", x.duckCount(), i);
            x.addDuck(i % 3, 10 + i, 20 + 2 * i);
        }
        Check.due("duckCount", x.duckCount(), 6);
        for (int i = 0; i < 6; i++) {
            Check.due("observedBath", x.observedBath(i), i % 3);
            Check.due("lowerBound", x.lowerBound(i), 10 + i);
            Check.due("upperBound", x.upperBound(i), 20 + 2 * i);
        }
    }

    private static void isContent() {
        BathLeague x = Leagues.withBaths(2);
        x.addDuck(0, 0, 99);
        Check.due("without water", x.isContent(0), false);
        x.runTap(0, Leagues.HOT, 2);
        x.runTap(0, Leagues.COLD, 5);
        Check.due("190 units in 7 litres, 0 to 99", x.isContent(0), true);
        x.addDuck(0, 27, 27);
        Check.due("27 to 27", x.isContent(1), true);
        x.addDuck(0, 28, 99);
        Check.due("28 to 99", x.isContent(2), false);
        x.addDuck(0, 0, 26);
        Check.due("0 to 26", x.isContent(3), false);
        x.addDuck(1, 0, 99);
        Check.due("of a bath without water", x.isContent(4), false);
        x.runTap(0, Leagues.COLD, 1);
        Check.due("200 units in 8 litres, 27 to 27", x.isContent(1), false);
        Check.due("0 to 26", x.isContent(3), true);
    }

    private static void quacksInCalls() {
        BathLeague x = Leagues.withBaths(2);
        x.runTap(0, Leagues.WARM, 10);
        x.addDuck(0, 40, 40);
        x.addDuck(1, 0, 99);
        Check.due("when it is added", x.quacks(0), 0);
        x.runTap(0, Leagues.WARM, 10);
        Check.due("as warm as before", x.quacks(0), 0);
        x.runTap(0, Leagues.HOT, 1);
        Check.due("41 degrees", x.quacks(0), 1);
        x.runTap(0, Leagues.HOT, 1);
        Check.due("a discontent one only once", x.quacks(0), 1);
        x.pour(0, 1, 22);
        Check.due("without water, discontent already", x.quacks(0), 1);
        Check.due("the other one got content", x.quacks(1), 0);
        x.pour(1, 0, 22);
        Check.due("poured away", x.quacks(1), 1);
        x.runTap(0, Leagues.COLD, 2);
        Check.due("940 + 20 units in 24 litres, content again", x.isContent(0), true);
        Check.due("content again", x.quacks(0), 1);
        x.runTap(1, Leagues.COLD, 2);
        x.pour(1, 0, 2);
        Check.due("the first one by what was poured in", x.quacks(0), 2);
        Check.due("the second one by what was poured out", x.quacks(1), 2);
    }

    private static void quacksInTicks() {
        BathLeague x = Leagues.withBaths(1);
        x.runTap(0, Leagues.HOT, 10);
        x.addDuck(0, 60, 65);
        x.addDuck(0, 66, 99);
        x.addDuck(0, 0, 50);
        x.advance(1);
        Check.due("650 units", x.heat(0), 650);
        Check.due("content now", x.quacks(0), 0);
        Check.due("content no more", x.quacks(1), 1);
        BathLeague y = Leagues.withBaths(1);
        y.runTap(0, Leagues.HOT, 10);
        y.addDuck(0, 60, 65);
        y.advance(10);
        Check.due("content in between, in one call", y.quacks(0), 1);
        y.advance(5);
        Check.due("no more", y.quacks(0), 1);
        BathLeague z = Leagues.withBaths(1);
        z.runTap(0, Leagues.HOT, 3);
        z.addDuck(0, 0, 99);
        z.setPlug(0, false);
        Check.due("a pulled plug is no moment", z.quacks(0), 0);
        z.advance(1);
        Check.due("without water", z.quacks(0), 1);
    }

    private static void noQuacks() {
        BathLeague x = Leagues.withBaths(1);
        x.runTap(0, Leagues.HOT, 10);
        x.addDuck(0, 71, 99);
        x.addDuck(0, 70, 70);
        Check.refused("a tap that is refused", UnsupportedOperationException.class, () -> {
            Leagues.fill(x, 0, Leagues.HOT, 120);
            return 0;
        });
        Check.due("never content", x.quacks(0), 0);
        Check.due("still content", x.quacks(1), 0);
        Check.due("predicted only", x.heatAfter(0, 30) < 7000, true);
        Check.due("a prediction is none", x.quacks(1), 0);
        x.advance(1);
        Check.due("content no more", x.quacks(1), 1);
        Check.due("never content", x.quacks(0), 0);
    }

    private static String order(BathLeague x) {
        StringBuilder order = new StringBuilder();
        for (int i = 0; i < x.duckCount(); i++) {
            order.append(x.duckByQuacks(i));
        }
        return order.toString();
    }

    private static void duckByQuacks() {
        BathLeague x = Leagues.withBaths(2);
        Check.refused("rank 0 of none", ELEMENT, () -> x.duckByQuacks(0));
        x.runTap(1, Leagues.WARM, 10);
        x.addDuck(0, 0, 99);
        x.addDuck(0, 0, 99);
        x.addDuck(1, 0, 99);
        x.addDuck(1, 40, 40);
        Check.due("content ones first, then by index", order(x), "2301");
        x.runTap(1, Leagues.HOT, 10);
        Check.due("one that has quacked", order(x), "3201");
        x.runTap(0, Leagues.HOT, 1);
        Check.due("all others content", order(x), "3012");
        x.pour(0, 1, 1);
        Check.due("three that have quacked", order(x), "0132");
        x.runTap(0, Leagues.HOT, 1);
        x.pour(0, 1, 1);
        Check.due("two that have quacked twice", order(x), "0132");
        Check.due("quacks", x.quacks(0), 2);
        x.addDuck(0, 0, 99);
        x.addDuck(1, 56, 56);
        Check.due("all 6 ducks", order(x), "013254");
        Check.due("contentShare of all 6 ducks", x.contentShare(), 2.0f / 6.0f);
        Check.refused("rank 6", ELEMENT, () -> x.duckByQuacks(6));
        Check.refused("rank -1", ELEMENT, () -> x.duckByQuacks(-1));
    }

    private static void noSuchDuck() {
        BathLeague x = Leagues.withBaths(3);
        x.addDuck(0, 0, 99);
        for (int duck : new int[] {-1, 1, 5, 6, Integer.MIN_VALUE, Integer.MAX_VALUE}) {
            Check.refused("observedBath(" + duck + ")", INDEX, () -> x.observedBath(duck));
            Check.refused("lowerBound(" + duck + ")", INDEX, () -> x.lowerBound(duck));
            Check.refused("upperBound(" + duck + ")", INDEX, () -> x.upperBound(duck));
            Check.refused("isContent(" + duck + ")", INDEX, () -> x.isContent(duck));
            Check.refused("quacks(" + duck + ")", INDEX, () -> x.quacks(duck));
        }
    }
}
