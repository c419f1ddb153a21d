/** Runs every test of the project. */
final class AllTests {
    private AllTests() {
    }

    public static void main(String[] args) {
        FaceTests.run();
        ChangeTests.run();
        BathTests.run();
        LeagueTests.run();
        DuckTests.run();
        EventTests.run();
        ScriptTests.run();
        UndoTests.run();
        ModelTests.run();
        Check.finish();
    }
}
