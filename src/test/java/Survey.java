/**
 * Asks every question, to see whether two objects, or one at two times, answer alike. Undo and restore are asked too,
 * so a whole survey is the last thing that is done with an object; it takes some 240 calls.
 */
final class Survey {
    private static final String[] PLAIN = {
        "bathCount", "memberCount", "leagueHeat", "leagueHeatByOthers", "warmestMember", "coldestMember", "sharedHeat",
        "duckCount", "eventCount", "time", "defectionTotal", "tappedLitres", "drainedLitres", "tappedHeat", "lostHeat",
        "contentShare", "isConsistent",
    };
    private static final String[] OF_BATH = {
        "volume", "heat", "temperature", "exactTemperature", "isPlugged", "isMember", "ticksUntilDefection",
        "bathByTemperature",
    };
    private static final String[] OF_DUCK = {
        "observedBath", "lowerBound", "upperBound", "isContent", "quacks", "duckByQuacks",
    };
    private static final String[] OF_EVENT = {"eventKind", "eventBath", "eventLitres"};
    private static final String[] BRIEF = {
        "bathCount", "duckCount", "eventCount", "time", "tappedLitres", "leagueHeat",
    };

    private final Run run;
    private final StringBuilder text = new StringBuilder();

    private Survey(Run run) {
        this.run = run;
    }

    static String of(Run run) {
        return state(run) + texts(run) + past(run);
    }

    /** What undo and the snapshot cover. */
    static String state(Run run) {
        Survey survey = new Survey(run);
        for (String name : PLAIN) {
            survey.note(name);
        }
        survey.noteEach(OF_BATH, 5);
        survey.noteEach(OF_DUCK, 6);
        survey.noteEach(OF_EVENT, 10);
        for (int bath = 0; bath < 5; bath++) {
            survey.note("heatAfter", bath, 60);
            survey.note("isWarmer", bath, (bath + 1) % 5);
            survey.note("litresToReach", bath, Run.HOT, 50);
            survey.note("litresToReachByFormula", bath, Run.COLD, 35);
        }
        return survey.text.toString();
    }

    /** The output text and what is told of scripts. */
    static String texts(Run run) {
        Survey survey = new Survey(run);
        survey.note("errorPosition");
        survey.note("failedCommand");
        for (int i = 0; i < 12; i++) {
            survey.note("outputAt", i);
        }
        return survey.text.toString();
    }

    /** What can be undone, the snapshot, and the script buffer. */
    static String past(Run run) {
        Survey survey = new Survey(run);
        for (int i = 0; i < 9; i++) {
            survey.note("undo");
            survey.noteBriefly();
        }
        survey.note("restore");
        survey.noteBriefly();
        survey.note("type", 'b');
        survey.note("runScript");
        survey.note("errorPosition");
        survey.noteBriefly();
        return survey.text.toString();
    }

    private void noteBriefly() {
        for (String name : BRIEF) {
            note(name);
        }
    }

    private void noteEach(String[] names, int count) {
        for (String name : names) {
            for (int i = 0; i < count; i++) {
                note(name, i);
            }
        }
    }

    private void note(String name, int... arguments) {
        text.append(name).append(java.util.Arrays.toString(arguments)).append(' ').append(run.ask(name, arguments))
                .append('\n');
    }
}
