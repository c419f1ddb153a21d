/** Objects in the states that the tests begin with. */
final class Leagues {
    static final int COLD = 0;
    static final int WARM = 1;
    static final int HOT = 2;

    private Leagues() {
    }

    static BathLeague withBaths(int count) {
        BathLeague league = new BathLeague();
        for (int i = 0; i < count; i++) {
            league.addBath();
        }
        return league;
    }

    /** Fills in as many calls as the limit of one call asks for. */
    static void fill(BathLeague league, int bath, int tap, int litres) {
        for (int left = litres; left > 0; left -= 20) {
            league.runTap(bath, tap, Math.min(20, left));
        }
    }

    /** Members of 40 degrees with these volumes. */
    static BathLeague withWarmMembers(int... litres) {
        BathLeague league = withBaths(litres.length);
        for (int i = 0; i < litres.length; i++) {
            fill(league, i, WARM, litres[i]);
            league.join(i);
        }
        return league;
    }

    static void type(BathLeague league, String script) {
        for (int i = 0; i < script.length(); i++) {
            league.type(script.charAt(i));
        }
    }

    static String run(BathLeague league, String script) {
        type(league, script);
        return Check.outcome(league::runScript);
    }

    static String rendered(BathLeague league, int bath) {
        return output(league, league.renderBath(bath));
    }

    static String output(BathLeague league, int length) {
        StringBuilder text = new StringBuilder();
        for (int i = 0; i < length; i++) {
            text.append(league.outputAt(i));
        }
        return text.toString();
    }

    /** All that undo and the snapshot cover, as far as queries show it. */
    static String stateOf(BathLeague league) {
        StringBuilder text = new StringBuilder();
        text.append("baths");
        for (int i = 0; i < league.bathCount(); i++) {
            text.append(' ').append(league.volume(i)).append('/').append(league.heat(i))
                    .append(league.isPlugged(i) ? '+' : '-').append(league.isMember(i) ? "*" : "");
        }
        text.append(" ducks");
        for (int i = 0; i < league.duckCount(); i++) {
            text.append(' ').append(league.observedBath(i)).append('/').append(league.lowerBound(i)).append('-')
                    .append(league.upperBound(i)).append('q').append(league.quacks(i))
                    .append(league.isContent(i) ? "c" : "");
        }
        text.append(" events");
        for (int i = 0; i < league.eventCount(); i++) {
            int recency = i;
            text.append(' ').append(league.eventKind(i)).append(league.eventBath(i)).append('/')
                    .append(Check.outcome(() -> league.eventLitres(recency)));
        }
        text.append(" totals ").append(league.time()).append(' ').append(league.defectionTotal()).append(' ')
                .append(league.tappedLitres()).append(' ').append(league.drainedLitres()).append(' ')
                .append(league.tappedHeat()).append(' ').append(league.lostHeat());
        return text.toString();
    }
}
