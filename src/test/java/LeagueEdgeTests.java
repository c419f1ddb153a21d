/** Promises 20 to 28 at their edges: a test for each sentence that names one. */
final class LeagueEdgeTests {
    private static final int LOWEST = Integer.MIN_VALUE;
    private static final int HIGHEST = Integer.MAX_VALUE;

    private LeagueEdgeTests() {
    }

    static void run() {
        members();
        heat();
        extremes();
        sharedHeat();
        ticksUntilDefection();
        heatAfter();
    }

    /** So many baths of 10 litres of 40 degrees, all of them members. */
    private static Run warm(int count) {
        Run x = new Run().baths(count);
        for (int i = 0; i < count; i++) {
            x.fill(i, Run.WARM, 10).does("join", i);
        }
        return x;
    }

    private static void members() {
        Check.test("promise 20: the first and the last bath, and none beside them", () -> warm(3).does("leave", 1)
                .due(true, "isMember", 0).due(false, "isMember", 1).due(true, "isMember", 2)
                .refused(Run.INDEX, "isMember", -1).refused(Run.INDEX, "isMember", 3)
                .refused(Run.INDEX, "isMember", 5).refused(Run.INDEX, "isMember", LOWEST)
                .refused(Run.INDEX, "isMember", HIGHEST));
        Check.test("promise 20: bath 4 of 5, and not 5", () -> warm(5).due(true, "isMember", 4)
                .refused(Run.INDEX, "isMember", 5));
        Check.test("promise 20: a member that got hot, cold or empty is one until the tick", () -> warm(3).baths(1)
                .fill(0, Run.HOT, 90).fill(1, Run.COLD, 90).does("pour", 2, 3, 10).due(true, "isMember", 0)
                .due(true, "isMember", 1).due(true, "isMember", 2).due(2, "advance", 1).due(true, "isMember", 0)
                .due(false, "isMember", 1).due(false, "isMember", 2));
        Check.test("promise 21: memberCount from 0 to 5", () -> {
            Run x = new Run().due(0, "memberCount").baths(5).due(0, "memberCount");
            for (int i = 0; i < 5; i++) {
                x.fill(i, Run.WARM, 1).does("join", i).due(i + 1, "memberCount");
            }
            x.does("leave", 4).due(4, "memberCount");
        });
    }

    private static void heat() {
        for (String name : new String[] {"leagueHeat", "leagueHeatByOthers"}) {
            String promise = name.equals("leagueHeat") ? "promise 22" : "promise 23";
            Check.test(promise + ": 0 without baths", () -> new Run().due(0, name));
            Check.test(promise + ": 0 without members", () -> new Run().baths(5).fill(0, Run.WARM, 10)
                    .fill(4, Run.HOT, 5).due(0, name));
            Check.test(promise + ": the first bath alone", () -> warm(5).does("leave", 1).does("leave", 2)
                    .does("leave", 3).does("leave", 4).due(400, name));
            Check.test(promise + ": the last bath alone", () -> warm(5).does("leave", 0).does("leave", 1)
                    .does("leave", 2).does("leave", 3).fill(4, Run.HOT, 1).due(470, name));
            Check.test(promise + ": all 5 baths, full and hot", () -> {
                Run x = warm(5);
                for (int i = 0; i < 5; i++) {
                    x.fill(i, Run.HOT, 90);
                }
                x.due(5 * 6700, name);
            });
            Check.test(promise + ": a member without water adds nothing", () -> warm(2).does("pour", 0, 1, 10)
                    .due(800, name));
        }
    }

    private static void extremes() {
        for (String name : new String[] {"warmestMember", "coldestMember"}) {
            String promise = name.equals("warmestMember") ? "promise 24" : "promise 25";
            Check.test(promise + ": none without baths, and without members", () -> new Run()
                    .refused(Run.ELEMENT, name).baths(1).fill(0, Run.WARM, 1).refused(Run.ELEMENT, name));
            Check.test(promise + ": none where no member has water", () -> warm(2).baths(1).does("pour", 0, 2, 10)
                    .does("pour", 1, 2, 10).due(2, "memberCount").refused(Run.ELEMENT, name));
            Check.test(promise + ": one member is enough", () -> warm(3).does("leave", 0).does("leave", 1).due(2, name));
            Check.test(promise + ": of equal ones the first, in whatever litres", () -> warm(3).does("leave", 0)
                    .fill(1, Run.WARM, 20).due(1, name));
            Check.test(promise + ": members without water are left out", () -> warm(3).does("pour", 0, 2, 10).due(1, name));
            Check.test(promise + ": others are left out", () -> warm(3).does("leave", 0).does("leave", 2)
                    .fill(0, Run.HOT, 10).fill(2, Run.COLD, 10).due(1, name));
        }
        Check.test("promise 24: a part of a degree counts", () -> warm(2).fill(0, Run.WARM, 1).fill(0, Run.HOT, 1)
                .fill(1, Run.HOT, 1).due(42, "temperature", 0).due(42, "temperature", 1).due(1, "warmestMember"));
        Check.test("promise 25: a part of a degree counts", () -> warm(2).fill(0, Run.COLD, 1).fill(1, Run.WARM, 1)
                .fill(1, Run.COLD, 1).due(37, "temperature", 0).due(37, "temperature", 1).due(0, "coldestMember")
                .fill(1, Run.COLD, 1).due(1, "coldestMember"));
        Check.test("promise 24: the last of 5", () -> warm(5).fill(4, Run.HOT, 1).due(4, "warmestMember")
                .due(0, "coldestMember"));
        Check.test("promise 25: the last of 5", () -> warm(5).fill(4, Run.COLD, 1).due(4, "coldestMember")
                .due(0, "warmestMember"));
    }

    /** Two members, bath 0 of so many warm and hot litres, bath 1 of so many warm and hot ones. */
    private static Run pair(int firstWarm, int firstHot, int secondWarm, int secondHot) {
        return new Run().baths(2).fill(0, Run.WARM, firstWarm).fill(1, Run.WARM, secondWarm).does("join", 0)
                .does("join", 1).fill(0, Run.HOT, firstHot).fill(1, Run.HOT, secondHot);
    }

    private static void sharedHeat() {
        Check.test("promise 26: none with 0 or 1 members", () -> new Run().refused(Run.ELEMENT, "sharedHeat").baths(2)
                .fill(0, Run.WARM, 1).fill(1, Run.WARM, 1).refused(Run.ELEMENT, "sharedHeat").does("join", 0)
                .refused(Run.ELEMENT, "sharedHeat").does("join", 1).due(0, "sharedHeat"));
        Check.test("promise 26: none where 1 of 2 members has water", () -> warm(2).does("pour", 0, 1, 10)
                .refused(Run.ELEMENT, "sharedHeat"));
        Check.test("promise 26: none where no member has water", () -> warm(2).baths(1).does("pour", 0, 2, 10)
                .does("pour", 1, 2, 10).refused(Run.ELEMENT, "sharedHeat"));
        Check.test("promise 26: 2 of 3 members with water are enough", () -> warm(3).does("pour", 0, 2, 10)
                .fill(2, Run.HOT, 10).due(20, "sharedHeat"));
        Check.test("promise 26: 0 among equals, in whatever litres", () -> pair(20, 0, 1, 0).due(0, "sharedHeat"));
        Check.test("promise 26: (190 * 7 - 280 * 4) / 11 is 19", () -> pair(3, 1, 7, 0).due(19, "sharedHeat"));
        Check.test("promise 26: (110 * 4 - 160 * 2) / 6 is 20", () -> pair(1, 1, 4, 0).due(20, "sharedHeat"));
        Check.test("promise 26: (150 * 7 - 280 * 3) / 10 is 21, but at most 20", () -> pair(2, 1, 7, 0)
                .due(20, "sharedHeat"));
        Check.test("promise 26: (110 * 15 - 810 * 2) / 17 is 1, and cut", () -> pair(1, 1, 8, 7).due(1, "sharedHeat"));
        Check.test("promise 26: (340 * 25 - 1210 * 7) / 32 is no whole unit", () -> pair(5, 2, 18, 7)
                .due(0, "sharedHeat"));
        Check.test("promise 26: nothing happens", () -> pair(1, 1, 4, 0).due(20, "sharedHeat").due(20, "sharedHeat")
                .due(110, "heat", 0).due(160, "heat", 1).due(0, "time"));
    }

    private static void ticksUntilDefection() {
        Check.test("promise 27: the first and the last bath, and none beside them", () -> warm(3)
                .does("pour", 0, 1, 10).fill(2, Run.COLD, 90).due(1, "ticksUntilDefection", 0)
                .due(1, "ticksUntilDefection", 2).refused(Run.INDEX, "ticksUntilDefection", -1)
                .refused(Run.INDEX, "ticksUntilDefection", 3).refused(Run.INDEX, "ticksUntilDefection", LOWEST)
                .refused(Run.INDEX, "ticksUntilDefection", HIGHEST));
        Check.test("promise 27: no member is refused", () -> new Run().baths(1)
                .refused(Run.STATE, "ticksUntilDefection", 0).fill(0, Run.WARM, 10)
                .refused(Run.STATE, "ticksUntilDefection", 0).does("join", 0).does("leave", 0)
                .refused(Run.STATE, "ticksUntilDefection", 0));
        Check.test("promise 27: 25 degrees after 17 ticks, so 18", () -> new Run().baths(1).fill(0, Run.COLD, 1)
                .fill(0, Run.HOT, 1).does("join", 0).due(18, "ticksUntilDefection", 0).does("advance", 17)
                .due(1, "ticksUntilDefection", 0).due(true, "isMember", 0));
        Check.test("promise 27: more ticks than one call of advance takes: a full hot bath, 22", () -> new Run().baths(1)
                .fill(0, Run.WARM, 1).does("join", 0).fill(0, Run.HOT, 99).due(22, "ticksUntilDefection", 0));
        Check.test("promise 27: one that is a member after 60 ticks, and after all others", () -> new Run().baths(1)
                .fill(0, Run.WARM, 1).does("join", 0).refused(Run.ELEMENT, "ticksUntilDefection", 0)
                .does("advance", 20).does("advance", 20).does("advance", 20).due(true, "isMember", 0)
                .refused(Run.ELEMENT, "ticksUntilDefection", 0));
        Check.test("promise 27: the slowest defection that was found, after 43 ticks", () -> slowest()
                .due(43, "ticksUntilDefection", 0).refused(Run.ELEMENT, "ticksUntilDefection", 1).due(0, "advance", 20)
                .due(0, "advance", 20).due(0, "advance", 2).due(true, "isMember", 0)
                .due(1, "ticksUntilDefection", 0).due(1, "advance", 1).due(false, "isMember", 0));
        Check.test("promise 27: alone a member leaves after 18 ticks", () -> new Run().baths(1).fill(0, Run.WARM, 2)
                .does("join", 0).due(18, "ticksUntilDefection", 0));
        Check.test("promise 27: beside a hot member, after 23 ticks, which is foreseen", () -> new Run().baths(2)
                .fill(0, Run.WARM, 2).fill(1, Run.WARM, 10).does("join", 0).does("join", 1).fill(1, Run.HOT, 90)
                .due(23, "ticksUntilDefection", 0).due(22, "ticksUntilDefection", 1).due(0, "advance", 20)
                .due(1, "advance", 2).due(true, "isMember", 0).due(1, "advance", 1).due(false, "isMember", 0));
    }

    /** One litre of 40 degrees lets each bath join in turn; then hot litres come: 55 degrees, and 70 four times. */
    private static Run slowest() {
        Run x = new Run().baths(5).fill(4, Run.WARM, 1).does("join", 4);
        for (int i = 4; i > 0; i--) {
            x.does("pour", i, i - 1, 1).does("join", i - 1);
        }
        for (int i = 0; i < 5; i++) {
            x.fill(i, Run.HOT, 1);
        }
        return x;
    }

    private static void heatAfter() {
        Check.test("promise 28: from 0 to 60 ticks, which still cool a full hot bath", () -> new Run().baths(1)
                .fill(0, Run.HOT, 100).due(7000, "heatAfter", 0, 0).due(6500, "heatAfter", 0, 1)
                .due(2015, "heatAfter", 0, 59).due(2014, "heatAfter", 0, 60)
                .refused(Run.ARGUMENT, "heatAfter", 0, -1).refused(Run.ARGUMENT, "heatAfter", 0, 61)
                .refused(Run.ARGUMENT, "heatAfter", 0, LOWEST).refused(Run.ARGUMENT, "heatAfter", 0, HIGHEST)
                .due(7000, "heat", 0).does("advance", 20).does("advance", 20).does("advance", 20).due(2014, "heat", 0));
        Check.test("promise 28: the first and the last bath, and none beside them", () -> warm(3)
                .due(380, "heatAfter", 0, 1).due(380, "heatAfter", 2, 1).refused(Run.INDEX, "heatAfter", -1, 1)
                .refused(Run.INDEX, "heatAfter", 3, 1).refused(Run.INDEX, "heatAfter", LOWEST, 1)
                .refused(Run.INDEX, "heatAfter", HIGHEST, 1));
        Check.test("promise 28: no such bath comes before wrong ticks", () -> warm(1)
                .refused(Run.INDEX, "heatAfter", 1, 61).refused(Run.INDEX, "heatAfter", -1, -1));
        Check.test("promise 28: a bath without water stays without heat", () -> new Run().baths(1)
                .due(0, "heatAfter", 0, 0).due(0, "heatAfter", 0, 60));
        Check.test("promise 28: 21 ticks, more than one call of advance takes", () -> new Run().baths(1)
                .fill(0, Run.HOT, 100).due(2551, "heatAfter", 0, 21).due(2496, "heatAfter", 0, 22));
        Check.test("promise 28: a bath that runs out has no heat", () -> new Run().baths(1).fill(0, Run.HOT, 4)
                .does("setPlug", 0, Run.OUT).due(65, "heatAfter", 0, 1).due(0, "heatAfter", 0, 2)
                .due(4, "volume", 0));
    }
}
