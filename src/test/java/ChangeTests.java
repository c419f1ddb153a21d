import java.util.NoSuchElementException;

/** Promises 2 to 9: the changes. */
final class ChangeTests {
    private static final Class<IndexOutOfBoundsException> INDEX = IndexOutOfBoundsException.class;
    private static final Class<IllegalArgumentException> ARGUMENT = IllegalArgumentException.class;
    private static final Class<IllegalStateException> STATE = IllegalStateException.class;
    private static final Class<NoSuchElementException> ELEMENT = NoSuchElementException.class;
    private static final Class<UnsupportedOperationException> UNSUPPORTED = UnsupportedOperationException.class;

    private ChangeTests() {
    }

    static void run() {
        Check.test("promise 2: addBath", ChangeTests::addBath);
        Check.test("promise 3: runTap fills", ChangeTests::runTap);
        Check.test("promise 3: runTap refuses", ChangeTests::runTapRefuses);
        Check.test("promise 4: setPlug", ChangeTests::setPlug);
        Check.test("promise 5: pour moves litres and heat", ChangeTests::pour);
        Check.test("promise 5: pour refuses", ChangeTests::pourRefuses);
        Check.test("promise 6: addDuck", ChangeTests::addDuck);
        Check.test("promise 6: addDuck refuses", ChangeTests::addDuckRefuses);
        Check.test("promise 7: join", ChangeTests::join);
        Check.test("promise 7: the temperatures that may join", ChangeTests::joiningTemperatures);
        Check.test("promise 8: leave", ChangeTests::leave);
        Check.test("promise 9: advance loses heat to the room", ChangeTests::advanceLosesHeat);
        Check.test("promise 9: advance drains", ChangeTests::advanceDrains);
        Check.test("promise 9: advance shares heat", ChangeTests::advanceShares);
        Check.test("promise 9: advance shares no heat beyond the balance", ChangeTests::advanceSharesLittle);
        Check.test("promise 9: advance lets members defect", ChangeTests::advanceDefects);
        Check.test("promise 9: the order of a tick's steps", ChangeTests::advanceOrder);
        Check.test("promise 9: advance refuses", ChangeTests::advanceRefuses);
    }

    private static void addBath() {
        BathLeague x = new BathLeague();
        for (int i = 0; i < 5; i++) {
            Check.due("addBath", x.addBath(), i);
            Check.due("volume", x.volume(i), 0);
            Check.due("heat", x.heat(i), 0);
            Check.due("isPlugged", x.isPlugged(i), true);
            Check.due("isMember", x.isMember(i), false);
        }
        Check.refused("the sixth addBath", STATE, x::addBath);
        Check.due("bathCount", x.bathCount(), 5);
    }

    private static void runTap() {
        BathLeague x = Leagues.withBaths(2);
        Check.due("a cold litre", x.runTap(0, 0, 1), 1);
        Check.due("its heat", x.heat(0), 10);
        Check.due("20 warm litres", x.runTap(0, 1, 20), 21);
        Check.due("their heat", x.heat(0), 810);
        Check.due("2 hot litres", x.runTap(0, 2, 2), 23);
        Check.due("their heat", x.heat(0), 950);
        Check.due("the other bath", x.volume(1), 0);
        Leagues.fill(x, 1, Leagues.COLD, 80);
        Check.due("up to the brim", x.runTap(1, 2, 20), 100);
        Check.due("its heat", x.heat(1), 2200);
        Check.due("the first bath", x.volume(0), 23);
    }

    private static void runTapRefuses() {
        BathLeague x = Leagues.withBaths(2);
        Leagues.fill(x, 0, Leagues.WARM, 90);
        String before = Leagues.stateOf(x);
        Check.refused("bath -1", INDEX, () -> x.runTap(-1, 0, 1));
        Check.refused("bath 2", INDEX, () -> x.runTap(2, 0, 1));
        Check.refused("bath 2 and a wrong tap", INDEX, () -> x.runTap(2, 9, 99));
        Check.refused("bath 7, beyond all rows", INDEX, () -> x.runTap(7, 0, 1));
        Check.refused("tap -1", ARGUMENT, () -> x.runTap(1, -1, 1));
        Check.refused("tap 3", ARGUMENT, () -> x.runTap(1, 3, 1));
        Check.refused("0 litres", ARGUMENT, () -> x.runTap(1, 0, 0));
        Check.refused("21 litres", ARGUMENT, () -> x.runTap(1, 0, 21));
        Check.refused("-1 litres", ARGUMENT, () -> x.runTap(1, 0, -1));
        Check.refused("so many litres that a sum wraps", ARGUMENT, () -> x.runTap(0, 0, Integer.MAX_VALUE));
        Check.refused("21 litres, and too many", ARGUMENT, () -> x.runTap(0, 0, 21));
        Check.refused("a wrong tap, and too many litres", ARGUMENT, () -> x.runTap(0, 3, 11));
        Check.refused("101 litres", UNSUPPORTED, () -> x.runTap(0, 0, 11));
        Check.due("the state", Leagues.stateOf(x), before);
        Check.due("100 litres", x.runTap(0, 0, 10), 100);
        Check.refused("one litre more", UNSUPPORTED, () -> x.runTap(0, 0, 1));
    }

    private static void setPlug() {
        BathLeague x = Leagues.withBaths(2);
        Check.due("in already", x.setPlug(0, true), true);
        Check.due("pulled out", x.setPlug(0, false), true);
        Check.due("isPlugged", x.isPlugged(0), false);
        Check.due("the other bath", x.isPlugged(1), true);
        Check.due("out already", x.setPlug(0, false), false);
        Check.due("put in", x.setPlug(0, true), false);
        Check.due("isPlugged", x.isPlugged(0), true);
        Check.refused("bath 2", INDEX, () -> x.setPlug(2, false));
        Check.refused("bath -1", INDEX, () -> x.setPlug(-1, false));
        Check.due("no event", x.eventCount(), 0);
    }

    private static void pour() {
        BathLeague x = Leagues.withBaths(3);
        x.runTap(0, Leagues.HOT, 2);
        x.runTap(0, Leagues.COLD, 1);
        Check.due("of 150 units in 3 litres", x.pour(0, 1, 1), 50);
        x.runTap(0, Leagues.COLD, 1);
        Check.due("of 110 units in 3 litres", x.pour(0, 1, 1), 36);
        Check.due("what stays", x.heat(0), 74);
        Check.due("what came", x.heat(1), 86);
        Check.due("volume of the first", x.volume(0), 2);
        Check.due("volume of the second", x.volume(1), 2);
        Check.due("all that is left", x.pour(0, 1, 2), 74);
        Check.due("volume of the emptied", x.volume(0), 0);
        Check.due("heat of the emptied", x.heat(0), 0);
        Check.due("heat of the second", x.heat(1), 160);
        Leagues.fill(x, 2, Leagues.WARM, 100);
        Check.due("99 litres", x.pour(2, 0, 99), 3960);
        Check.due("isConsistent", x.isConsistent(), true);
    }

    private static void pourRefuses() {
        BathLeague x = Leagues.withBaths(3);
        Leagues.fill(x, 0, Leagues.WARM, 30);
        Leagues.fill(x, 1, Leagues.WARM, 80);
        String before = Leagues.stateOf(x);
        Check.refused("from -1", INDEX, () -> x.pour(-1, 0, 1));
        Check.refused("from 3", INDEX, () -> x.pour(3, 0, 1));
        Check.refused("to -1", INDEX, () -> x.pour(0, -1, 1));
        Check.refused("to 3", INDEX, () -> x.pour(0, 3, 1));
        Check.refused("from and to 3", INDEX, () -> x.pour(3, 3, 0));
        Check.refused("to 3, 0 litres", INDEX, () -> x.pour(0, 3, 0));
        Check.refused("from 5", INDEX, () -> x.pour(5, 0, 1));
        Check.refused("to 5", INDEX, () -> x.pour(0, 5, 1));
        Check.refused("the same bath", ARGUMENT, () -> x.pour(0, 0, 1));
        Check.refused("the same bath, without water", ARGUMENT, () -> x.pour(2, 2, 1));
        Check.refused("0 litres", ARGUMENT, () -> x.pour(0, 2, 0));
        Check.refused("100 litres", ARGUMENT, () -> x.pour(0, 2, 100));
        Check.refused("-1 litres", ARGUMENT, () -> x.pour(0, 2, -1));
        Check.refused("99 litres of 30", ELEMENT, () -> x.pour(0, 2, 99));
        Check.refused("31 litres of 30, too many for the other, too", ELEMENT, () -> x.pour(0, 1, 31));
        Check.refused("from a bath without water", ELEMENT, () -> x.pour(2, 0, 1));
        Check.refused("21 litres to 80", UNSUPPORTED, () -> x.pour(0, 1, 21));
        Check.due("the state", Leagues.stateOf(x), before);
        Check.due("20 litres to 80", x.pour(0, 1, 20), 800);
        Check.due("the volume", x.volume(1), 100);
    }

    private static void addDuck() {
        BathLeague x = Leagues.withBaths(2);
        Check.due("the first duck", x.addDuck(1, 0, 99), 0);
        Check.due("the second, with equal bounds", x.addDuck(0, 40, 40), 1);
        Check.due("a third", x.addDuck(0, 99, 99), 2);
        Check.due("a fourth", x.addDuck(0, 0, 0), 3);
        Check.due("a fifth", x.addDuck(0, 1, 2), 4);
        Check.due("a sixth", x.addDuck(0, 1, 2), 5);
        Check.refused("a seventh", STATE, () -> x.addDuck(0, 1, 2));
        Check.due("duckCount", x.duckCount(), 6);
        Check.due("observedBath", x.observedBath(0), 1);
        Check.due("lowerBound", x.lowerBound(1), 40);
        Check.due("upperBound", x.upperBound(1), 40);
    }

    private static void addDuckRefuses() {
        BathLeague x = Leagues.withBaths(1);
        Check.refused("bath 1", INDEX, () -> x.addDuck(1, 0, 1));
        Check.refused("bath -1", INDEX, () -> x.addDuck(-1, 0, 1));
        Check.refused("bath 1 and wrong bounds", INDEX, () -> x.addDuck(1, 9, 1));
        Check.refused("low -1", ARGUMENT, () -> x.addDuck(0, -1, 1));
        Check.refused("high 100", ARGUMENT, () -> x.addDuck(0, 1, 100));
        Check.refused("low 100", ARGUMENT, () -> x.addDuck(0, 100, 100));
        Check.refused("high -1", ARGUMENT, () -> x.addDuck(0, -1, -1));
        Check.refused("low above high", ARGUMENT, () -> x.addDuck(0, 41, 40));
        Check.due("duckCount", x.duckCount(), 0);
        for (int i = 0; i < 6; i++) {
            x.addDuck(0, 0, 99);
        }
        Check.refused("wrong bounds, and 6 ducks", ARGUMENT, () -> x.addDuck(0, 41, 40));
        Check.refused("bath 1, and 6 ducks", INDEX, () -> x.addDuck(1, 0, 99));
    }

    private static void join() {
        BathLeague x = Leagues.withBaths(3);
        x.runTap(0, Leagues.WARM, 1);
        x.runTap(1, Leagues.WARM, 1);
        x.runTap(2, Leagues.COLD, 1);
        Check.due("the first", x.join(1), 1);
        Check.due("isMember", x.isMember(1), true);
        Check.due("isMember of another", x.isMember(0), false);
        Check.due("the second", x.join(0), 2);
        Check.refused("once more", STATE, () -> x.join(0));
        Check.refused("too cold", UNSUPPORTED, () -> x.join(2));
        Check.refused("bath 3", INDEX, () -> x.join(3));
        Check.refused("bath -1", INDEX, () -> x.join(-1));
        x.pour(0, 1, 1);
        Check.refused("a member that has no water any more", STATE, () -> x.join(0));
        x.leave(0);
        Check.refused("no water", UNSUPPORTED, () -> x.join(0));
        Check.due("memberCount", x.memberCount(), 1);
    }

    private static void joiningTemperatures() {
        BathLeague x = Leagues.withBaths(5);
        x.runTap(0, Leagues.HOT, 1);
        x.runTap(0, Leagues.COLD, 2);
        Check.due("30 degrees", x.join(0), 1);
        x.runTap(1, Leagues.COLD, 7);
        x.runTap(1, Leagues.WARM, 13);
        Check.due("590 units in 20 litres", x.temperature(1), 29);
        Check.refused("29 degrees", UNSUPPORTED, () -> x.join(1));
        x.runTap(2, Leagues.WARM, 16);
        x.runTap(2, Leagues.HOT, 4);
        Check.due("920 units in 20 litres", x.temperature(2), 46);
        Check.refused("46 degrees", UNSUPPORTED, () -> x.join(2));
        x.runTap(3, Leagues.WARM, 17);
        x.runTap(3, Leagues.HOT, 4);
        Check.due("960 units in 21 litres", x.temperature(3), 45);
        Check.due("45 degrees and a part", x.join(3), 2);
        x.runTap(4, Leagues.WARM, 19);
        x.runTap(4, Leagues.COLD, 10);
        Check.due("860 units in 29 litres", x.temperature(4), 29);
        Check.refused("29 degrees and a part", UNSUPPORTED, () -> x.join(4));
    }

    private static void leave() {
        BathLeague x = Leagues.withWarmMembers(1, 1);
        Check.due("the first", x.leave(0), 1);
        Check.due("isMember", x.isMember(0), false);
        Check.due("isMember of the other", x.isMember(1), true);
        Check.refused("once more", STATE, () -> x.leave(0));
        Check.refused("bath 2", INDEX, () -> x.leave(2));
        Check.refused("bath -1", INDEX, () -> x.leave(-1));
        Check.due("the last", x.leave(1), 0);
        Check.due("no defection", x.defectionTotal(), 0);
    }

    private static void advanceLosesHeat() {
        BathLeague x = Leagues.withBaths(5);
        x.runTap(0, Leagues.HOT, 1);
        x.runTap(1, Leagues.COLD, 1);
        x.runTap(2, Leagues.COLD, 3);
        x.runTap(3, Leagues.COLD, 2);
        x.runTap(3, Leagues.WARM, 1);
        Check.due("advance", x.advance(1), 0);
        Check.due("70 - 50 / 10", x.heat(0), 65);
        Check.due("10 + 10 / 10", x.heat(1), 11);
        Check.due("30 + 30 / 10", x.heat(2), 33);
        Check.due("20 degrees keep", x.heat(3), 60);
        Check.due("a bath without water", x.heat(4), 0);
        Check.due("time", x.time(), 1);
        Check.due("lostHeat", x.lostHeat(), 5 - 1 - 3);
        Check.due("advance", x.advance(1), 0);
        Check.due("65 - 45 / 10", x.heat(0), 61);
        Check.due("11 + 9 / 10, which is 0", x.heat(1), 11);
        Check.due("33 + 27 / 10", x.heat(2), 35);
        Check.due("advance", x.advance(2), 0);
        Check.due("61 - 4, and - 3", x.heat(0), 54);
        Check.due("time", x.time(), 4);
    }

    private static void advanceDrains() {
        BathLeague x = Leagues.withBaths(2);
        x.runTap(0, Leagues.HOT, 5);
        x.runTap(1, Leagues.HOT, 5);
        x.setPlug(0, false);
        x.advance(1);
        Check.due("volume", x.volume(0), 2);
        Check.due("350 - 25, less 325 * 3 / 5", x.heat(0), 130);
        Check.due("lostHeat", x.lostHeat(), 25 + 195 + 25);
        Check.due("drainedLitres", x.drainedLitres(), 3);
        Check.due("volume of the plugged", x.volume(1), 5);
        x.advance(1);
        Check.due("the last 2 litres", x.volume(0), 0);
        Check.due("without water, no heat", x.heat(0), 0);
        Check.due("drainedLitres", x.drainedLitres(), 5);
        x.advance(1);
        Check.due("nothing more", x.drainedLitres(), 5);
        x.runTap(0, Leagues.HOT, 3);
        x.runTap(0, Leagues.COLD, 4);
        x.setPlug(0, true);
        x.advance(1);
        Check.due("the plug is in again", x.volume(0), 7);
        x.setPlug(0, false);
        x.advance(1);
        Check.due("250 - 11 - 9, less 230 * 3 / 7", x.heat(0), 132);
        Check.due("isConsistent", x.isConsistent(), true);
    }

    private static void advanceShares() {
        BathLeague x = Leagues.withWarmMembers(20, 20, 20, 20);
        x.runTap(1, Leagues.HOT, 20);
        x.runTap(3, Leagues.HOT, 20);
        x.advance(1);
        Check.due("the receiver, of two the first", x.heat(0), 800 - 40 + 20);
        Check.due("the giver, of two the first", x.heat(1), 2200 - 140 - 20);
        Check.due("the other cold one", x.heat(2), 760);
        Check.due("the other warm one", x.heat(3), 2060);
        x.advance(1);
        Check.due("the first receiver", x.heat(0), 780 - 38);
        Check.due("the first giver", x.heat(1), 2040 - 124);
        Check.due("the second receiver", x.heat(2), 760 - 36 + 20);
        Check.due("the second giver", x.heat(3), 2060 - 126 - 20);
        Check.due("lostHeat has no shared heat", x.isConsistent(), true);
    }

    private static void advanceSharesLittle() {
        BathLeague x = Leagues.withWarmMembers(10, 1, 1);
        x.leave(1);
        x.runTap(0, Leagues.HOT, 1);
        x.advance(1);
        Check.due("470 - 25, less (445 - 38 * 11) / 12", x.heat(0), 443);
        Check.due("40 - 2 + 2", x.heat(2), 40);
        Check.due("one that is no member", x.heat(1), 38);
        x.leave(2);
        x.advance(1);
        Check.due("one member alone", x.heat(0), 443 - 22);
        BathLeague y = Leagues.withWarmMembers(10, 1);
        y.runTap(0, Leagues.HOT, 1);
        y.pour(1, 0, 1);
        y.advance(1);
        Check.due("one member alone has water", y.heat(0), 510 - 27);
        Check.due("the other one gets nothing", y.heat(1), 0);
    }

    private static void advanceDefects() {
        BathLeague x = Leagues.withWarmMembers(10, 20, 1);
        x.runTap(0, Leagues.COLD, 20);
        x.pour(2, 1, 1);
        Check.due("two of three", x.advance(1), 2);
        Check.due("20 degrees", x.isMember(0), false);
        Check.due("40 degrees", x.isMember(1), true);
        Check.due("without water", x.isMember(2), false);
        Check.due("defectionTotal", x.defectionTotal(), 2);
        Check.due("in the order of the indices", "" + x.eventKind(1) + x.eventBath(1) + x.eventKind(0) + x.eventBath(0),
                "d0d2");
        Check.due("one more", x.advance(20), 1);
        Check.due("defectionTotal", x.defectionTotal(), 3);
        Check.due("no more", x.advance(20), 0);

        BathLeague y = Leagues.withBaths(1);
        y.runTap(0, Leagues.COLD, 10);
        y.runTap(0, Leagues.WARM, 20);
        y.join(0);
        Check.due("900 less 30, 27, 24 and 21: 26 degrees", y.advance(4), 0);
        Check.due("heat", y.heat(0), 798);
        Check.due("less 19 and 17: 25 degrees", y.advance(2), 0);
        Check.due("heat", y.heat(0), 762);
        Check.due("less 16: 24 degrees", y.advance(1), 1);
    }

    private static void advanceOrder() {
        BathLeague x = Leagues.withWarmMembers(4, 20);
        x.runTap(1, Leagues.HOT, 20);
        x.setPlug(0, false);
        x.advance(1);
        Check.due("160 - 8, less 152 * 3 / 4, then what a bath of 1 litre gets", x.heat(0), 38 + 13);
        Check.due("2200 - 140, less (2060 - 38 * 40) / 41", x.heat(1), 2060 - 13);

        BathLeague y = Leagues.withWarmMembers(2, 20);
        y.pour(0, 1, 1);
        y.runTap(0, Leagues.COLD, 1);
        Check.due("shared heat keeps a cold member", y.advance(1), 0);
        Check.due("50 - 1 + 20", y.heat(0), 69);

        BathLeague w = Leagues.withBaths(1);
        w.runTap(0, Leagues.WARM, 3);
        w.runTap(0, Leagues.HOT, 1);
        w.setPlug(0, false);
        w.advance(1);
        Check.due("190 - 11, then less 179 * 3 / 4", w.heat(0), 45);

        BathLeague z = Leagues.withWarmMembers(3, 20);
        z.setPlug(0, false);
        Check.due("drained, then without share, then a defection", z.advance(1), 1);
        Check.due("heat", z.heat(0), 0);
        Check.due("the other's heat", z.heat(1), 760);
    }

    private static void advanceRefuses() {
        BathLeague x = Leagues.withWarmMembers(5);
        Check.refused("0 ticks", ARGUMENT, () -> x.advance(0));
        Check.refused("21 ticks", ARGUMENT, () -> x.advance(21));
        Check.refused("-1 ticks", ARGUMENT, () -> x.advance(-1));
        Check.due("time", x.time(), 0);
        Check.due("20 ticks", x.advance(20), 1);
        Check.due("time", x.time(), 20);
    }
}
