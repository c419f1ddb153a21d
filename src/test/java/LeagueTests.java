import java.util.NoSuchElementException;

/** Promises 20 to 28: the queries about the league, and the predictions. */
final class LeagueTests {
    private static final Class<IndexOutOfBoundsException> INDEX = IndexOutOfBoundsException.class;
    private static final Class<NoSuchElementException> ELEMENT = NoSuchElementException.class;

    private LeagueTests() {
    }

    static void run() {
        Check.test("promises 20 and 21: isMember and memberCount", LeagueTests::members);
        Check.test("promises 22 and 23: leagueHeat, both ways", LeagueTests::leagueHeat);
        Check.test("promises 24 and 25: warmestMember and coldestMember", LeagueTests::extremes);
        Check.test("promise 26: sharedHeat", LeagueTests::sharedHeat);
        Check.test("promise 26: sharedHeat is at most the balance", LeagueTests::sharedHeatBalance);
        Check.test("promise 27: ticksUntilDefection", LeagueTests::ticksUntilDefection);
        Check.test("promise 27: ticksUntilDefection looks 60 ticks ahead", LeagueTests::ticksUntilDefectionBound);
        Check.test("promise 27: ticksUntilDefection refuses", LeagueTests::ticksUntilDefectionRefuses);
        Check.test("promise 28: heatAfter", LeagueTests::heatAfter);
    }

    private static void members() {
        BathLeague x = Leagues.withBaths(3);
        x.runTap(1, Leagues.WARM, 5);
        x.runTap(2, Leagues.WARM, 5);
        Check.due("memberCount", x.memberCount(), 0);
        x.join(1);
        Check.due("isMember(0)", x.isMember(0), false);
        Check.due("isMember(1)", x.isMember(1), true);
        Check.due("memberCount", x.memberCount(), 1);
        x.join(2);
        Check.due("memberCount", x.memberCount(), 2);
        x.pour(2, 0, 5);
        Check.due("a member without water is one until the tick", x.memberCount(), 2);
        x.advance(1);
        Check.due("memberCount", x.memberCount(), 1);
        Check.refused("isMember(3)", INDEX, () -> x.isMember(3));
        Check.refused("isMember(-1)", INDEX, () -> x.isMember(-1));
    }

    private static void leagueHeat() {
        BathLeague x = Leagues.withWarmMembers(5, 7);
        x.addBath();
        x.runTap(2, Leagues.HOT, 3);
        Check.due("leagueHeat", x.leagueHeat(), 480);
        Check.due("leagueHeatByOthers", x.leagueHeatByOthers(), 480);
        x.leave(0);
        Check.due("leagueHeat", x.leagueHeat(), 280);
        Check.due("leagueHeatByOthers", x.leagueHeatByOthers(), 280);
        x.leave(1);
        Check.due("leagueHeat", x.leagueHeat(), 0);
        Check.due("leagueHeatByOthers", x.leagueHeatByOthers(), 0);
        BathLeague all = Leagues.withWarmMembers(1, 2, 3, 4, 5);
        Check.due("leagueHeat of all 5 baths", all.leagueHeat(), 600);
        Check.due("leagueHeatByOthers of all 5 baths", all.leagueHeatByOthers(), 600);
        all.leave(4);
        Check.due("leagueHeat of 4 of 5", all.leagueHeat(), 400);
        Check.due("leagueHeatByOthers of 4 of 5", all.leagueHeatByOthers(), 400);
        Check.due("isConsistent", all.isConsistent(), true);
    }

    private static void extremes() {
        BathLeague x = Leagues.withWarmMembers(10, 10, 20, 20);
        Check.due("of equal ones the first", x.warmestMember(), 0);
        Check.due("of equal ones the first", x.coldestMember(), 0);
        x.runTap(1, Leagues.HOT, 1);
        x.runTap(2, Leagues.HOT, 2);
        Check.due("470 / 11 and 940 / 22", x.warmestMember(), 1);
        x.runTap(2, Leagues.HOT, 1);
        Check.due("470 / 11 and 1010 / 23", x.warmestMember(), 2);
        x.runTap(3, Leagues.COLD, 2);
        x.runTap(0, Leagues.COLD, 1);
        Check.due("410 / 11 and 820 / 22", x.coldestMember(), 0);
        x.runTap(3, Leagues.COLD, 1);
        Check.due("410 / 11 and 830 / 23", x.coldestMember(), 3);
        x.addBath();
        x.runTap(4, Leagues.HOT, 1);
        Check.due("one that is no member", x.warmestMember(), 2);
        x.leave(2);
        Check.due("warmestMember", x.warmestMember(), 1);
        x.pour(3, 4, 20);
        x.pour(3, 4, 3);
        Check.due("a member without water", x.coldestMember(), 0);
        BathLeague none = Leagues.withWarmMembers(1);
        none.addBath();
        none.pour(0, 1, 1);
        Check.refused("warmestMember without water", ELEMENT, none::warmestMember);
        Check.refused("coldestMember without water", ELEMENT, none::coldestMember);
        Check.refused("warmestMember of none", ELEMENT, () -> new BathLeague().warmestMember());
        Check.refused("coldestMember of none", ELEMENT, () -> new BathLeague().coldestMember());
    }

    private static void sharedHeat() {
        BathLeague x = Leagues.withWarmMembers(20, 20);
        Check.due("equal ones", x.sharedHeat(), 0);
        x.runTap(1, Leagues.HOT, 20);
        Check.due("the most", x.sharedHeat(), 20);
        Check.due("the heat stays", x.heat(1), 2200);
        x.leave(0);
        Check.refused("one member", ELEMENT, x::sharedHeat);
        x.leave(1);
        Check.refused("no member", ELEMENT, x::sharedHeat);
        BathLeague y = Leagues.withWarmMembers(20, 1, 1);
        y.pour(1, 0, 1);
        Check.due("two members with water", y.sharedHeat(), 0);
        y.pour(2, 0, 1);
        Check.refused("three members, one with water", ELEMENT, y::sharedHeat);
    }

    private static void sharedHeatBalance() {
        BathLeague x = Leagues.withWarmMembers(10, 10);
        x.runTap(0, Leagues.HOT, 1);
        Check.due("(4700 - 4400) / 21", x.sharedHeat(), 14);
        x.runTap(1, Leagues.COLD, 1);
        Check.due("(5170 - 4510) / 22, but at most 20", x.sharedHeat(), 20);
        BathLeague y = Leagues.withWarmMembers(20, 20);
        y.runTap(0, Leagues.HOT, 1);
        Check.due("(17400 - 16800) / 41", y.sharedHeat(), 14);
        BathLeague z = Leagues.withWarmMembers(7, 6);
        z.runTap(1, Leagues.HOT, 1);
        z.runTap(0, Leagues.HOT, 1);
        Check.due("(310 * 8 - 350 * 7) / 15", z.sharedHeat(), 2);
        z.runTap(1, Leagues.WARM, 1);
        Check.due("equal again", z.sharedHeat(), 0);
    }

    private static void ticksUntilDefection() {
        BathLeague x = Leagues.withWarmMembers(20, 10);
        x.runTap(0, Leagues.HOT, 10);
        x.runTap(1, Leagues.COLD, 20);
        String before = Leagues.stateOf(x);
        int first = x.ticksUntilDefection(0);
        Check.due("20 degrees", x.ticksUntilDefection(1), 1);
        Check.due("the state", Leagues.stateOf(x), before);
        Check.due("advance", x.advance(first - 1), 1);
        Check.due("a tick before", x.isMember(0), true);
        Check.due("ticksUntilDefection then", x.ticksUntilDefection(0), 1);
        Check.due("the tick", x.advance(1), 1);
        Check.due("isMember", x.isMember(0), false);
        BathLeague y = Leagues.withWarmMembers(7);
        y.setPlug(0, false);
        Check.due("7 litres run out", y.ticksUntilDefection(0), 3);
        Check.due("the volume", y.volume(0), 7);
    }

    /** A bath of 1 litre keeps what is less than 10 units above the room: 29 degrees for ever. */
    private static void ticksUntilDefectionBound() {
        BathLeague x = Leagues.withWarmMembers(1);
        Check.refused("one that stays", ELEMENT, () -> x.ticksUntilDefection(0));
        Check.due("it stays", x.advance(20) + x.advance(20) + x.advance(20), 0);
        Check.due("the heat that stays", x.heat(0), 29);
        Check.refused("it still stays", ELEMENT, () -> x.ticksUntilDefection(0));
        BathLeague y = Leagues.withWarmMembers(1);
        y.runTap(0, Leagues.HOT, 11);
        Check.due("more ticks than one call of advance takes", y.ticksUntilDefection(0), 23);
        Check.due("19 ticks", y.advance(19), 0);
        Check.due("the rest", y.ticksUntilDefection(0), 4);
    }

    private static void ticksUntilDefectionRefuses() {
        BathLeague x = Leagues.withWarmMembers(1, 1);
        x.leave(1);
        Check.refused("no member", IllegalStateException.class, () -> x.ticksUntilDefection(1));
        Check.refused("bath 2", INDEX, () -> x.ticksUntilDefection(2));
        Check.refused("bath -1", INDEX, () -> x.ticksUntilDefection(-1));
    }

    private static void heatAfter() {
        BathLeague x = Leagues.withWarmMembers(20, 20);
        x.runTap(1, Leagues.HOT, 20);
        String before = Leagues.stateOf(x);
        Check.due("0 ticks", x.heatAfter(0, 0), 800);
        Check.due("1 tick", x.heatAfter(0, 1), 780);
        Check.due("1 tick of the other", x.heatAfter(1, 1), 2040);
        Check.due("2 ticks", x.heatAfter(0, 2), 780 - 38 + 20);
        int last = x.heatAfter(0, 60);
        Check.refused("61 ticks", IllegalArgumentException.class, () -> x.heatAfter(0, 61));
        Check.refused("-1 ticks", IllegalArgumentException.class, () -> x.heatAfter(0, -1));
        Check.refused("bath 2", INDEX, () -> x.heatAfter(2, 1));
        Check.refused("bath 2 and 61 ticks", INDEX, () -> x.heatAfter(2, 61));
        Check.refused("bath -1", INDEX, () -> x.heatAfter(-1, 1));
        Check.due("the state", Leagues.stateOf(x), before);
        x.advance(20);
        x.advance(20);
        x.advance(20);
        Check.due("60 ticks", last, x.heat(0));
    }
}
