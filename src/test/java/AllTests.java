/** Runs every test of the project. */
final class AllTests {
    private AllTests() {
    }

    public static void main(String[] args) {
        FaceTests.run();
        ChangeTests.run();
        ChangeEdgeTests.run();
        TickEdgeTests.run();
        BathTests.run();
        BathEdgeTests.run();
        LeagueTests.run();
        LeagueEdgeTests.run();
        DuckTests.run();
        DuckEdgeTests.run();
        EventTests.run();
        EventEdgeTests.run();
        ScriptTests.run();
        ScriptEdgeTests.run();
        UndoTests.run();
        UndoEdgeTests.run();
        RefusalTests.run();
        ModelTests.run();
        ReadmeTests.run();
        Check.finish();
    }
}
