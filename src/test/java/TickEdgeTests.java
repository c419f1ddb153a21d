/** Promise 9 at its edges: a test for each sentence of 'One tick' that names one. */
final class TickEdgeTests {
    private TickEdgeTests() {
    }

    static void run() {
        ticks();
        loss();
        drain();
        share();
        shareUnits();
        defections();
        order();
    }

    private static void ticks() {
        Check.test("promise 9: from 1 to 20 ticks", () -> new Run().baths(1).due(0, "advance", 1).due(1, "time")
                .due(0, "advance", 20).due(21, "time").refused(Run.ARGUMENT, "advance", 0)
                .refused(Run.ARGUMENT, "advance", 21).refused(Run.ARGUMENT, "advance", -1)
                .refused(Run.ARGUMENT, "advance", Integer.MIN_VALUE)
                .refused(Run.ARGUMENT, "advance", Integer.MAX_VALUE).due(21, "time"));
        Check.test("promise 9: ticks pass without baths too", () -> new Run().due(0, "advance", 20).due(20, "time"));
        Check.test("promise 9: 20 ticks in one call are 20 calls of one", () -> {
            Run once = start().does("advance", 20);
            Run often = start();
            for (int i = 0; i < 20; i++) {
                often.does("advance", 1);
            }
            Check.due("the state", Survey.state(once), Survey.state(often));
        });
    }

    private static Run start() {
        return new Run().baths(4).fill(0, Run.WARM, 30).fill(1, Run.WARM, 2).fill(2, Run.COLD, 50).fill(3, Run.WARM, 80)
                .does("join", 0).does("join", 1).does("join", 3).fill(3, Run.HOT, 20).does("setPlug", 0, Run.OUT)
                .does("addDuck", 1, 35, 45).does("addDuck", 0, 30, 60);
    }

    private static void loss() {
        Check.test("promise 9: 10 units above the room lose 1, 9 lose none", () -> new Run().baths(1)
                .fill(0, Run.COLD, 1).fill(0, Run.WARM, 1).due(50, "heat", 0).does("advance", 1).due(49, "heat", 0)
                .does("advance", 1).due(49, "heat", 0).due(1, "lostHeat"));
        Check.test("promise 9: 20 units above the room lose 2, 19 lose 1", () -> new Run().baths(2)
                .fill(0, Run.COLD, 1).fill(0, Run.HOT, 1).does("advance", 8).due(59, "heat", 0).does("advance", 1)
                .due(58, "heat", 0).fill(1, Run.WARM, 1).does("advance", 1).due(38, "heat", 1));
        Check.test("promise 9: 10 units below the room gain 1, 9 gain none", () -> new Run().baths(1)
                .fill(0, Run.COLD, 1).does("advance", 1).due(11, "heat", 0).does("advance", 1).due(11, "heat", 0)
                .due(-1, "lostHeat"));
        Check.test("promise 9: 20 units below the room gain 2, 18 gain 1", () -> new Run().baths(1)
                .fill(0, Run.COLD, 2).does("advance", 1).due(22, "heat", 0).does("advance", 1).due(23, "heat", 0));
        Check.test("promise 9: 20 degrees stay as they are", () -> new Run().baths(1).fill(0, Run.COLD, 2)
                .fill(0, Run.WARM, 1).does("advance", 20).due(60, "heat", 0).due(0, "lostHeat"));
        Check.test("promise 9: a bath without water loses nothing", () -> new Run().baths(1).does("advance", 20)
                .due(0, "heat", 0).due(0, "volume", 0).due(0, "lostHeat"));
        Check.test("promise 9: a full hot bath loses a tenth of 5000", () -> new Run().baths(1).fill(0, Run.HOT, 100)
                .does("advance", 1).due(6500, "heat", 0).due(500, "lostHeat"));
    }

    private static void drain() {
        Check.test("promise 9: of 4 litres 3 run out", () -> new Run().baths(1).fill(0, Run.WARM, 4)
                .does("setPlug", 0, Run.OUT).does("advance", 1).due(1, "volume", 0).due(38, "heat", 0)
                .due(3, "drainedLitres"));
        Check.test("promise 9: of 3 litres all run out", () -> new Run().baths(1).fill(0, Run.WARM, 3)
                .does("setPlug", 0, Run.OUT).does("advance", 1).due(0, "volume", 0).due(0, "heat", 0)
                .due(3, "drainedLitres").due(120, "lostHeat"));
        Check.test("promise 9: of 2 litres 2 run out", () -> new Run().baths(1).fill(0, Run.WARM, 2)
                .does("setPlug", 0, Run.OUT).does("advance", 1).due(0, "volume", 0).due(0, "heat", 0)
                .due(2, "drainedLitres").due(80, "lostHeat"));
        Check.test("promise 9: of 1 litre 1 runs out", () -> new Run().baths(1).fill(0, Run.WARM, 1)
                .does("setPlug", 0, Run.OUT).does("advance", 1).due(0, "volume", 0).due(0, "heat", 0)
                .due(1, "drainedLitres").due(40, "lostHeat"));
        Check.test("promise 9: of none, none runs out", () -> new Run().baths(1).does("setPlug", 0, Run.OUT)
                .does("advance", 20).due(0, "volume", 0).due(0, "drainedLitres").due(0, "lostHeat"));
        Check.test("promise 9: of 100 litres 3 run out, and all of them in 34 ticks", () -> new Run().baths(1)
                .fill(0, Run.WARM, 100).does("setPlug", 0, Run.OUT).does("advance", 1).due(97, "volume", 0)
                .does("advance", 20).does("advance", 12).due(1, "volume", 0).does("advance", 1).due(0, "volume", 0)
                .due(0, "heat", 0).due(100, "drainedLitres").due(4000, "lostHeat").due(true, "isConsistent"));
        Check.test("promise 9: of 179 units 3 of 4 litres take 134", () -> new Run().baths(1).fill(0, Run.WARM, 3)
                .fill(0, Run.HOT, 1).does("setPlug", 0, Run.OUT).does("advance", 1).due(45, "heat", 0)
                .due(11 + 134, "lostHeat"));
        Check.test("promise 9: with its plug in a bath keeps its litres", () -> new Run().baths(1).fill(0, Run.WARM, 4)
                .does("advance", 20).due(4, "volume", 0).due(0, "drainedLitres"));
    }

    private static void share() {
        Check.test("promise 9: one member shares nothing", () -> new Run().baths(2).fill(0, Run.WARM, 1)
                .fill(1, Run.HOT, 10).does("join", 0).does("advance", 1).due(38, "heat", 0).due(650, "heat", 1));
        Check.test("promise 9: two members with water are enough", () -> new Run().baths(2).fill(0, Run.WARM, 10)
                .fill(1, Run.WARM, 10).does("join", 0).does("join", 1).fill(1, Run.HOT, 10).does("advance", 1)
                .due(400, "heat", 0).due(1100 - 70 - 20, "heat", 1));
        Check.test("promise 9: of two members one without water shares nothing", () -> new Run().baths(3)
                .fill(0, Run.WARM, 1).fill(1, Run.WARM, 10).does("join", 0).does("join", 1).does("pour", 0, 2, 1)
                .does("advance", 1).due(0, "heat", 0).due(380, "heat", 1).due(38, "heat", 2));
        Check.test("promise 9: of three members one without water is left out", () -> new Run().baths(4)
                .fill(0, Run.WARM, 1).fill(1, Run.WARM, 10).fill(2, Run.WARM, 10).does("join", 0).does("join", 1)
                .does("join", 2).does("pour", 0, 3, 1).fill(2, Run.HOT, 10).does("advance", 1).due(0, "heat", 0)
                .due(400, "heat", 1).due(1010, "heat", 2));
        Check.test("promise 9: of two warmest ones the first gives", () -> warmest(1, 3).due(1010, "heat", 1)
                .due(1030, "heat", 3));
        Check.test("promise 9: of two coldest ones the first receives", () -> warmest(1, 3).due(400, "heat", 0)
                .due(380, "heat", 2));
        Check.test("promise 9: equally warm in other litres, the first gives all the same", () -> new Run().baths(3)
                .fill(0, Run.WARM, 20).fill(1, Run.WARM, 10).fill(2, Run.WARM, 20).does("join", 0).does("join", 1)
                .does("join", 2).fill(1, Run.HOT, 10).fill(2, Run.HOT, 20).does("advance", 1).due(780, "heat", 0)
                .due(1010, "heat", 1).due(2060, "heat", 2));
        Check.test("promise 9: equally warm members keep their heat", () -> new Run().baths(3).fill(0, Run.WARM, 20)
                .fill(1, Run.WARM, 10).fill(2, Run.WARM, 1).does("join", 0).does("join", 1).does("join", 2)
                .does("advance", 1).due(760, "heat", 0).due(380, "heat", 1).due(38, "heat", 2));
        Check.test("promise 9: baths that are no members give and receive nothing", () -> new Run().baths(4)
                .fill(0, Run.HOT, 10).fill(1, Run.WARM, 10).fill(2, Run.WARM, 10).fill(3, Run.COLD, 10)
                .does("join", 1).does("join", 2).does("advance", 1).due(650, "heat", 0).due(380, "heat", 1)
                .due(380, "heat", 2).due(110, "heat", 3));
    }

    /** 4 members of 10 litres of 40 degrees; 10 hot litres more go to each of these two. A tick has passed. */
    private static Run warmest(int first, int second) {
        Run x = new Run().baths(4);
        for (int i = 0; i < 4; i++) {
            x.fill(i, Run.WARM, 10).does("join", i);
        }
        return x.fill(first, Run.HOT, 10).fill(second, Run.HOT, 10).does("advance", 1);
    }

    /** Two members of so many warm and so many hot litres, bath 0 and then bath 1. A tick has passed. */
    private static Run pair(int firstWarm, int firstHot, int secondWarm, int secondHot) {
        return new Run().baths(2).fill(0, Run.WARM, firstWarm).fill(1, Run.WARM, secondWarm).does("join", 0)
                .does("join", 1).fill(0, Run.HOT, firstHot).fill(1, Run.HOT, secondHot).does("advance", 1);
    }

    private static void shareUnits() {
        Check.test("promise 9: (103 * 5 - 190 * 2) / 7 is 19, and cut", () -> pair(1, 1, 5, 0).due(84, "heat", 0)
                .due(209, "heat", 1));
        Check.test("promise 9: (293 * 20 - 760 * 7) / 27 is 20", () -> pair(6, 1, 20, 0).due(273, "heat", 0)
                .due(780, "heat", 1));
        Check.test("promise 9: (103 * 7 - 266 * 2) / 9 is 21, but at most 20 are given", () -> pair(1, 1, 7, 0)
                .due(83, "heat", 0).due(286, "heat", 1));
        Check.test("promise 9: (103 * 13 - 656 * 2) / 15 is 1, and cut", () -> pair(1, 1, 7, 6).due(102, "heat", 0)
                .due(657, "heat", 1));
        Check.test("promise 9: (141 * 25 - 1166 * 3) / 28 is no whole unit", () -> pair(2, 1, 17, 8)
                .due(141, "heat", 0).due(1166, "heat", 1));
    }

    private static void defections() {
        Check.test("promise 9: 25 degrees stay", () -> cooling().due(0, "advance", 17).due(50, "heat", 0)
                .due(true, "isMember", 0).due(0, "defectionTotal"));
        Check.test("promise 9: 24.5 degrees leave", () -> cooling().does("advance", 17).due(1, "advance", 1)
                .due(49, "heat", 0).due(false, "isMember", 0).due(1, "defectionTotal"));
        Check.test("promise 9: only the defections in these ticks are told", () -> cooling().due(1, "advance", 20)
                .due(0, "advance", 20).due(1, "defectionTotal"));
        Check.test("promise 9: a member without water leaves", () -> new Run().baths(2).fill(0, Run.WARM, 1)
                .does("join", 0).does("pour", 0, 1, 1).due(true, "isMember", 0).due(1, "advance", 1)
                .due(false, "isMember", 0));
        Check.test("promise 9: a member that runs empty in the tick leaves", () -> new Run().baths(1)
                .fill(0, Run.WARM, 3).does("join", 0).does("setPlug", 0, Run.OUT).due(1, "advance", 1)
                .due(false, "isMember", 0));
        Check.test("promise 9: a member that keeps a litre in the tick stays", () -> new Run().baths(1)
                .fill(0, Run.WARM, 4).does("join", 0).does("setPlug", 0, Run.OUT).due(0, "advance", 1)
                .due(true, "isMember", 0));
        Check.test("promise 9: cold baths that are no members do not defect", () -> new Run().baths(2)
                .fill(0, Run.COLD, 5).due(0, "advance", 20).due(0, "defectionTotal").due(1, "eventCount"));
        Check.test("promise 9: a hot member stays", () -> new Run().baths(1).fill(0, Run.WARM, 1).does("join", 0)
                .fill(0, Run.HOT, 99).due(0, "advance", 1).due(true, "isMember", 0));
        Check.test("promise 9: all 5 members can leave in one tick", () -> {
            Run x = new Run().baths(5);
            for (int i = 0; i < 5; i++) {
                x.fill(i, Run.WARM, 1).does("join", i).fill(i, Run.COLD, 20);
            }
            x.due(5, "advance", 1).due(0, "memberCount").due(5, "defectionTotal");
        });
    }

    /** 2 litres of 80 units: 25 degrees after 17 ticks, less after 18. */
    private static Run cooling() {
        return new Run().baths(1).fill(0, Run.COLD, 1).fill(0, Run.HOT, 1).does("join", 0);
    }

    private static void order() {
        Check.test("promise 9: heat is lost before litres run out", () -> new Run().baths(1).fill(0, Run.WARM, 4)
                .does("setPlug", 0, Run.OUT).does("advance", 1).due(38, "heat", 0).due(8 + 114, "lostHeat"));
        Check.test("promise 9: heat is shared after litres have run out", () -> new Run().baths(2).fill(0, Run.WARM, 4)
                .fill(1, Run.WARM, 20).does("join", 0).does("join", 1).fill(1, Run.HOT, 20).does("setPlug", 0, Run.OUT)
                .does("advance", 1).due(38 + 13, "heat", 0).due(2060 - 13, "heat", 1));
        Check.test("promise 9: members leave after heat was shared", () -> new Run().baths(2).fill(0, Run.WARM, 1)
                .fill(1, Run.WARM, 20).does("join", 0).does("join", 1).fill(0, Run.COLD, 1).does("advance", 1)
                .due(true, "isMember", 0).due(49 + 20, "heat", 0));
        Check.test("promise 9: one that leaves in the tick has still shared", () -> new Run().baths(2)
                .fill(0, Run.WARM, 1).fill(1, Run.WARM, 20).does("join", 0).does("join", 1).fill(0, Run.COLD, 19)
                .due(1, "advance", 1).due(230 + 17 + 20, "heat", 0).due(760 - 20, "heat", 1));
    }
}
