import java.util.NoSuchElementException;

/** Baths that exchange heat, the league that they share it in, and the ducks that observe them. */
public final class BathLeague {
    private static final int MAX_BATHS = 5;
    private static final int MAX_VOLUME = 100;
    private static final int MAX_DUCKS = 6;
    private static final int MAX_BOUND = 99;
    private static final int MAX_TARGET = 99;
    private static final int MAX_EVENTS = 10;
    private static final int MAX_TAPPED = 20;
    private static final int MAX_POURED = 99;
    private static final int MAX_TICKS = 20;
    private static final int MAX_PREDICTED_TICKS = 60;
    private static final int MAX_DRAINED = 3;
    private static final int MAX_SHARED = 20;
    private static final int ROOM_DEGREES = 20;
    private static final int MIN_JOINING_DEGREES = 30;
    private static final int MAX_JOINING_DEGREES = 45;
    private static final int MIN_STAYING_DEGREES = 25;
    private static final int MAX_UNDOS = 8;
    private static final int MAX_SCRIPT = 60;
    /** The shortest command has 5 characters with its semicolon; one more may begin behind the last semicolon. */
    private static final int MAX_COMMANDS = MAX_SCRIPT / 5 + 1;

    private static final int COLD_TAP = 0;
    private static final int WARM_TAP = 1;
    private static final int HOT_TAP = 2;
    private static final int[] TAP_DEGREES = {10, 40, 70};

    /** Stands for a bath, a number of litres or a position that there is not. */
    private static final int NONE = -1;

    private static final int NO_FAULT = 0;
    private static final int NO_SUCH_INDEX = 1;
    private static final int BAD_ARGUMENT = 2;
    private static final int WRONG_STATE = 3;
    private static final int NOT_THERE = 4;
    private static final int NOT_POSSIBLE = 5;

    private static final int BATH_COMMAND = 0;
    private static final int TAP_COMMAND = 1;
    private static final int PLUG_COMMAND = 2;
    private static final int POUR_COMMAND = 3;
    private static final int DUCK_COMMAND = 4;
    private static final int JOIN_COMMAND = 5;
    private static final int LEAVE_COMMAND = 6;
    private static final int TICK_COMMAND = 7;

    private final State now = new State();
    /** Predictions and scripts run on this copy, so that the state stays as it is until a script has succeeded. */
    private final State trial = new State();
    private final State snapshot = new State();
    private boolean hasSnapshot = false;
    private final History history = new History();
    private final Script script = new Script();
    private int latestErrorPosition = NONE;
    private int latestFailedCommand = NONE;
    private final StringBuilder output = new StringBuilder();

    public BathLeague() {
    }

    // Changes

    public int addBath() throws IllegalStateException {
        refuse(now.placeBathFault());
        history.remember(now);
        return now.placeBath();
    }

    public int runTap(int bath, int tap, int litres)
            throws IndexOutOfBoundsException, IllegalArgumentException, UnsupportedOperationException {
        refuse(now.fillFault(bath, tap, litres));
        history.remember(now);
        now.fill(bath, tap, litres);
        return now.baths.volume[bath];
    }

    public boolean setPlug(int bath, boolean isIn) throws IndexOutOfBoundsException {
        refuse(now.plugFault(bath));
        history.remember(now);
        boolean wasIn = now.baths.plugged[bath];
        now.plug(bath, isIn);
        return wasIn;
    }

    public int pour(int from, int to, int litres)
            throws IndexOutOfBoundsException, IllegalArgumentException, NoSuchElementException,
            UnsupportedOperationException {
        refuse(now.transferFault(from, to, litres));
        history.remember(now);
        return now.transfer(from, to, litres);
    }

    public int addDuck(int bath, int low, int high)
            throws IndexOutOfBoundsException, IllegalArgumentException, IllegalStateException {
        refuse(now.placeDuckFault(bath, low, high));
        history.remember(now);
        return now.placeDuck(bath, low, high);
    }

    public int join(int bath)
            throws IndexOutOfBoundsException, IllegalStateException, UnsupportedOperationException {
        refuse(now.admitFault(bath));
        history.remember(now);
        now.admit(bath);
        return now.baths.members();
    }

    public int leave(int bath) throws IndexOutOfBoundsException, IllegalStateException {
        refuse(now.dismissFault(bath));
        history.remember(now);
        now.dismiss(bath);
        return now.baths.members();
    }

    public int advance(int ticks) throws IllegalArgumentException {
        refuse(now.passTicksFault(ticks));
        history.remember(now);
        int defectionsBefore = now.totals.defections;
        now.passTicks(ticks);
        return now.totals.defections - defectionsBefore;
    }

    // Baths

    public int bathCount() {
        return now.baths.count;
    }

    public int volume(int bath) throws IndexOutOfBoundsException {
        requireBath(bath);
        return now.baths.volume[bath];
    }

    public int heat(int bath) throws IndexOutOfBoundsException {
        requireBath(bath);
        return now.baths.heat[bath];
    }

    public int temperature(int bath) throws IndexOutOfBoundsException, NoSuchElementException {
        requireBath(bath);
        requireWater(bath);
        return now.baths.degrees(bath);
    }

    public double exactTemperature(int bath) throws IndexOutOfBoundsException, NoSuchElementException {
        requireBath(bath);
        requireWater(bath);
        return (double) now.baths.heat[bath] / (double) now.baths.volume[bath];
    }

    public boolean isWarmer(int first, int second) throws IndexOutOfBoundsException, NoSuchElementException {
        requireBath(first);
        requireBath(second);
        requireWater(first);
        requireWater(second);
        return now.baths.isHotter(first, second);
    }

    public boolean isPlugged(int bath) throws IndexOutOfBoundsException {
        requireBath(bath);
        return now.baths.plugged[bath];
    }

    public int bathByTemperature(int rank) throws NoSuchElementException {
        requireElement(rank, now.baths.count);
        return now.baths.atRank(rank);
    }

    public int litresToReach(int bath, int tap, int target)
            throws IndexOutOfBoundsException, IllegalArgumentException, NoSuchElementException,
            UnsupportedOperationException {
        requirePlan(bath, tap, target);
        return requireLitres(litresByTrying(now.baths.volume[bath], now.baths.heat[bath], tap, target));
    }

    public int litresToReachByFormula(int bath, int tap, int target)
            throws IndexOutOfBoundsException, IllegalArgumentException, NoSuchElementException,
            UnsupportedOperationException {
        requirePlan(bath, tap, target);
        return requireLitres(litresByFormula(now.baths.volume[bath], now.baths.heat[bath], tap, target));
    }

    // The league

    public boolean isMember(int bath) throws IndexOutOfBoundsException {
        requireBath(bath);
        return now.baths.member[bath];
    }

    public int memberCount() {
        return now.baths.members();
    }

    public int leagueHeat() {
        return now.baths.heatOfMembers();
    }

    public int leagueHeatByOthers() {
        return now.baths.heatOfAll() - now.baths.heatOfOthers();
    }

    public int warmestMember() throws NoSuchElementException {
        int warmest = now.baths.hottestMember();
        if (warmest == NONE) {
            throw new NoSuchElementException("no member has water");
        }
        return warmest;
    }

    public int coldestMember() throws NoSuchElementException {
        int coldest = now.baths.coolestMember();
        if (coldest == NONE) {
            throw new NoSuchElementException("no member has water");
        }
        return coldest;
    }

    public int sharedHeat() throws NoSuchElementException {
        if (now.baths.membersWithWater() < 2) {
            throw new NoSuchElementException("fewer than 2 members have water");
        }
        return now.baths.unitsToShare(now.baths.hottestMember(), now.baths.coolestMember());
    }

    public int ticksUntilDefection(int bath)
            throws IndexOutOfBoundsException, IllegalStateException, NoSuchElementException {
        requireBath(bath);
        if (!now.baths.member[bath]) {
            throw new IllegalStateException("the bath is not a member");
        }
        trial.copyFrom(now);
        for (int ticks = 1; ticks <= MAX_PREDICTED_TICKS; ticks++) {
            trial.tick();
            if (!trial.baths.member[bath]) {
                return ticks;
            }
        }
        throw new NoSuchElementException("the bath stays a member");
    }

    public int heatAfter(int bath, int ticks) throws IndexOutOfBoundsException, IllegalArgumentException {
        requireBath(bath);
        if (ticks < 0 || ticks > MAX_PREDICTED_TICKS) {
            throw new IllegalArgumentException("the number of ticks is not between 0 and 60");
        }
        trial.copyFrom(now);
        trial.passTicks(ticks);
        return trial.baths.heat[bath];
    }

    // Ducks

    public int duckCount() {
        return now.ducks.count;
    }

    public int observedBath(int duck) throws IndexOutOfBoundsException {
        requireDuck(duck);
        return now.ducks.bath[duck];
    }

    public int lowerBound(int duck) throws IndexOutOfBoundsException {
        requireDuck(duck);
        return now.ducks.low[duck];
    }

    public int upperBound(int duck) throws IndexOutOfBoundsException {
        requireDuck(duck);
        return now.ducks.high[duck];
    }

    public boolean isContent(int duck) throws IndexOutOfBoundsException {
        requireDuck(duck);
        return now.ducks.isPleased(duck, now.baths);
    }

    public int quacks(int duck) throws IndexOutOfBoundsException {
        requireDuck(duck);
        return now.ducks.quackCount[duck];
    }

    public int duckByQuacks(int rank) throws NoSuchElementException {
        requireElement(rank, now.ducks.count);
        return now.ducks.atRank(rank, now.baths);
    }

    // Events, totals, checks

    public int eventCount() {
        return now.events.count;
    }

    public char eventKind(int recency) throws NoSuchElementException {
        requireElement(recency, now.events.count);
        return now.events.kind[recency];
    }

    public int eventBath(int recency) throws NoSuchElementException {
        requireElement(recency, now.events.count);
        return now.events.bath[recency];
    }

    public int eventLitres(int recency) throws NoSuchElementException {
        requireElement(recency, now.events.count);
        if (now.events.litres[recency] == NONE) {
            throw new NoSuchElementException("the event is neither a tap nor a pouring");
        }
        return now.events.litres[recency];
    }

    public int time() {
        return now.totals.ticks;
    }

    public int defectionTotal() {
        return now.totals.defections;
    }

    public int tappedLitres() {
        return now.totals.litresTapped;
    }

    public int drainedLitres() {
        return now.totals.litresDrained;
    }

    public int tappedHeat() {
        return now.totals.heatTapped;
    }

    public int lostHeat() {
        return now.totals.heatLost;
    }

    public float contentShare() throws ArithmeticException {
        if (now.ducks.count == 0) {
            throw new ArithmeticException("there are no ducks");
        }
        return (float) now.ducks.pleasedCount(now.baths) / (float) now.ducks.count;
    }

    public boolean isConsistent() {
        return leagueHeat() == leagueHeatByOthers()
                && now.baths.volumeOfAll() == now.totals.litresTapped - now.totals.litresDrained
                && now.baths.heatOfAll() == now.totals.heatTapped - now.totals.heatLost;
    }

    // Output and scripts

    public int renderBath(int bath) throws IndexOutOfBoundsException {
        requireBath(bath);
        output.setLength(0);
        output.append(bath).append(':').append(now.baths.volume[bath]).append('l');
        if (now.baths.hasWater(bath)) {
            output.append(now.baths.degrees(bath)).append('C');
        }
        output.append(now.baths.plugged[bath] ? '+' : '-');
        if (now.baths.member[bath]) {
            output.append('*');
        }
        return output.length();
    }

    public char outputAt(int index) throws IndexOutOfBoundsException {
        if (index < 0 || index >= output.length()) {
            throw new IndexOutOfBoundsException("the output text has no such index");
        }
        return output.charAt(index);
    }

    public int type(char character) throws IllegalArgumentException, IllegalStateException {
        if (character < 32 || character > 126) {
            throw new IllegalArgumentException("the character code is not between 32 and 126");
        }
        if (script.length >= MAX_SCRIPT) {
            throw new IllegalStateException("the script buffer is full");
        }
        script.append(character);
        return script.length;
    }

    public int runScript() throws IllegalArgumentException, IllegalStateException {
        script.read();
        script.empty();
        if (script.malformed) {
            latestErrorPosition = script.position;
            throw new IllegalArgumentException("the script does not have the required form");
        }
        trial.copyFrom(now);
        for (int i = 0; i < script.count; i++) {
            if (commandFault(i) != NO_FAULT) {
                latestFailedCommand = i;
                throw new IllegalStateException("a command failed");
            }
            perform(i);
        }
        history.remember(now);
        now.copyFrom(trial);
        return script.count;
    }

    public int errorPosition() throws NoSuchElementException {
        if (latestErrorPosition == NONE) {
            throw new NoSuchElementException("no script had a wrong form");
        }
        return latestErrorPosition;
    }

    public int failedCommand() throws NoSuchElementException {
        if (latestFailedCommand == NONE) {
            throw new NoSuchElementException("no script had a failed command");
        }
        return latestFailedCommand;
    }

    public int undo() throws NoSuchElementException {
        if (history.count == 0) {
            throw new NoSuchElementException("there is nothing to undo");
        }
        history.recall(now);
        return history.count;
    }

    public int save() {
        snapshot.copyFrom(now);
        hasSnapshot = true;
        return now.baths.count;
    }

    public int restore() throws IllegalStateException {
        if (!hasSnapshot) {
            throw new IllegalStateException("there is no snapshot");
        }
        now.copyFrom(snapshot);
        history.forget();
        return now.baths.count;
    }

    private static void refuse(int fault)
            throws IndexOutOfBoundsException, IllegalArgumentException, IllegalStateException,
            NoSuchElementException, UnsupportedOperationException {
        switch (fault) {
            case NO_SUCH_INDEX:
                throw new IndexOutOfBoundsException("there is no such bath");
            case BAD_ARGUMENT:
                throw new IllegalArgumentException("an argument is out of its range");
            case WRONG_STATE:
                throw new IllegalStateException("the state does not allow this");
            case NOT_THERE:
                throw new NoSuchElementException("there is not enough water");
            case NOT_POSSIBLE:
                throw new UnsupportedOperationException("the bath does not allow this");
            default:
                break;
        }
    }

    private void requireBath(int bath) throws IndexOutOfBoundsException {
        if (!now.baths.has(bath)) {
            throw new IndexOutOfBoundsException("there is no such bath");
        }
    }

    private void requireWater(int bath) throws NoSuchElementException {
        if (!now.baths.hasWater(bath)) {
            throw new NoSuchElementException("the bath has no water");
        }
    }

    private void requireDuck(int duck) throws IndexOutOfBoundsException {
        if (duck < 0 || duck >= now.ducks.count) {
            throw new IndexOutOfBoundsException("there is no such duck");
        }
    }

    private static void requireElement(int place, int count) throws NoSuchElementException {
        if (place < 0 || place >= count) {
            throw new NoSuchElementException("there is no such rank or recency");
        }
    }

    private void requirePlan(int bath, int tap, int target)
            throws IndexOutOfBoundsException, IllegalArgumentException, NoSuchElementException {
        requireBath(bath);
        if (!isTap(tap) || target < 0 || target > MAX_TARGET) {
            throw new IllegalArgumentException("there is no such tap, or the target is not between 0 and 99");
        }
        requireWater(bath);
    }

    private static int requireLitres(int litres) throws UnsupportedOperationException {
        if (litres == NONE) {
            throw new UnsupportedOperationException("no number of litres is enough");
        }
        return litres;
    }

    private static boolean isTap(int tap) {
        return tap >= COLD_TAP && tap <= HOT_TAP;
    }

    /** The temperature of water, rounded toward zero; 0 where there is none. */
    private static int roundedDegrees(int heat, int litres) {
        return litres > 0 ? heat / litres : 0;
    }

    private static int litresByTrying(int volume, int heat, int tap, int target) {
        for (int litres = 0; litres <= MAX_VOLUME - volume; litres++) {
            int degrees = roundedDegrees(heat + litres * TAP_DEGREES[tap], volume + litres);
            if (tap == COLD_TAP ? degrees <= target : degrees >= target) {
                return litres;
            }
        }
        return NONE;
    }

    private static int litresByFormula(int volume, int heat, int tap, int target) {
        int litres = tap == COLD_TAP
                ? litresToCool(heat - (target + 1) * volume, target + 1 - TAP_DEGREES[tap])
                : litresToWarm(target * volume - heat, TAP_DEGREES[tap] - target);
        return litres <= MAX_VOLUME - volume ? litres : NONE;
    }

    /** The rounded temperature is at most the target once the exact one is below target + 1: no excess may be left. */
    private static int litresToCool(int excess, int takenByLitre) {
        if (excess < 0) {
            return 0;
        }
        return takenByLitre > 0 ? excess / takenByLitre + 1 : NONE;
    }

    private static int litresToWarm(int lack, int givenByLitre) {
        if (lack <= 0) {
            return 0;
        }
        return givenByLitre > 0 ? (lack + givenByLitre - 1) / givenByLitre : NONE;
    }

    /** What the method for a command of the script would refuse in the trial state. */
    private int commandFault(int command) {
        int first = script.first[command];
        int second = script.second[command];
        int third = script.third[command];
        switch (script.kind[command]) {
            case BATH_COMMAND:
                return trial.placeBathFault();
            case TAP_COMMAND:
                return trial.fillFault(first, second, third);
            case PLUG_COMMAND:
                return trial.plugFault(first);
            case POUR_COMMAND:
                return trial.transferFault(first, second, third);
            case DUCK_COMMAND:
                return trial.placeDuckFault(first, second, third);
            case JOIN_COMMAND:
                return trial.admitFault(first);
            case LEAVE_COMMAND:
                return trial.dismissFault(first);
            default:
                return trial.passTicksFault(first);
        }
    }

    private void perform(int command) {
        int first = script.first[command];
        int second = script.second[command];
        int third = script.third[command];
        switch (script.kind[command]) {
            case BATH_COMMAND:
                trial.placeBath();
                break;
            case TAP_COMMAND:
                trial.fill(first, second, third);
                break;
            case PLUG_COMMAND:
                trial.plug(first, second == 1);
                break;
            case POUR_COMMAND:
                trial.transfer(first, second, third);
                break;
            case DUCK_COMMAND:
                trial.placeDuck(first, second, third);
                break;
            case JOIN_COMMAND:
                trial.admit(first);
                break;
            case LEAVE_COMMAND:
                trial.dismiss(first);
                break;
            default:
                trial.passTicks(first);
                break;
        }
    }

    /** The baths, a column each. */
    private static final class Baths {
        int count = 0;
        final int[] volume = new int[MAX_BATHS];
        final int[] heat = new int[MAX_BATHS];
        final boolean[] plugged = new boolean[MAX_BATHS];
        final boolean[] member = new boolean[MAX_BATHS];

        void copyFrom(Baths other) {
            count = other.count;
            for (int i = 0; i < MAX_BATHS; i++) {
                volume[i] = other.volume[i];
                heat[i] = other.heat[i];
                plugged[i] = other.plugged[i];
                member[i] = other.member[i];
            }
        }

        boolean has(int bath) {
            return bath >= 0 && bath < count;
        }

        boolean hasWater(int bath) {
            return volume[bath] > 0;
        }

        int degrees(int bath) {
            return roundedDegrees(heat[bath], volume[bath]);
        }

        /** Compares the fractions by their cross products, for exactness; both baths have water. */
        boolean isHotter(int first, int second) {
            return heat[first] * volume[second] > heat[second] * volume[first];
        }

        /** The heat that some of a bath's litres carry. */
        int heatOf(int bath, int litres) {
            return hasWater(bath) ? heat[bath] * litres / volume[bath] : 0;
        }

        int members() {
            int members = 0;
            for (int i = 0; i < count; i++) {
                if (member[i]) {
                    members++;
                }
            }
            return members;
        }

        int membersWithWater() {
            int members = 0;
            for (int i = 0; i < count; i++) {
                if (member[i] && hasWater(i)) {
                    members++;
                }
            }
            return members;
        }

        int heatOfMembers() {
            int sum = 0;
            for (int i = 0; i < count; i++) {
                if (member[i]) {
                    sum += heat[i];
                }
            }
            return sum;
        }

        int heatOfOthers() {
            int sum = 0;
            for (int i = 0; i < count; i++) {
                if (!member[i]) {
                    sum += heat[i];
                }
            }
            return sum;
        }

        int heatOfAll() {
            int sum = 0;
            for (int i = 0; i < count; i++) {
                sum += heat[i];
            }
            return sum;
        }

        int volumeOfAll() {
            int sum = 0;
            for (int i = 0; i < count; i++) {
                sum += volume[i];
            }
            return sum;
        }

        int hottestMember() {
            int hottest = NONE;
            for (int i = 0; i < count; i++) {
                if (member[i] && hasWater(i) && (hottest == NONE || isHotter(i, hottest))) {
                    hottest = i;
                }
            }
            return hottest;
        }

        int coolestMember() {
            int coolest = NONE;
            for (int i = 0; i < count; i++) {
                if (member[i] && hasWater(i) && (coolest == NONE || isHotter(coolest, i))) {
                    coolest = i;
                }
            }
            return coolest;
        }

        /** No case of its own for equal temperatures: their difference is 0. */
        int unitsToShare(int giver, int receiver) {
            if (!has(giver) || !has(receiver)) {
                return 0;
            }
            int litres = volume[giver] + volume[receiver];
            if (litres == 0) {
                return 0;
            }
            int units = (heat[giver] * volume[receiver] - heat[receiver] * volume[giver]) / litres;
            return Math.min(MAX_SHARED, units);
        }

        void shareHeat() {
            if (membersWithWater() < 2) {
                return;
            }
            int giver = hottestMember();
            int receiver = coolestMember();
            int units = unitsToShare(giver, receiver);
            heat[giver] -= units;
            heat[receiver] += units;
        }

        int atRank(int rank) {
            for (int i = 0; i < count; i++) {
                if (rankOf(i) == rank) {
                    return i;
                }
            }
            return NONE;
        }

        private int rankOf(int bath) {
            int before = 0;
            for (int i = 0; i < count; i++) {
                if (ranksBefore(i, bath)) {
                    before++;
                }
            }
            return before;
        }

        private boolean ranksBefore(int first, int second) {
            if (!hasWater(first) || !hasWater(second)) {
                return hasWater(first) == hasWater(second) ? first < second : hasWater(first);
            }
            return isHotter(first, second) || first < second && !isHotter(second, first);
        }
    }

    /** The ducks, a column each. */
    private static final class Ducks {
        int count = 0;
        final int[] bath = new int[MAX_DUCKS];
        final int[] low = new int[MAX_DUCKS];
        final int[] high = new int[MAX_DUCKS];
        final int[] quackCount = new int[MAX_DUCKS];
        final boolean[] wasPleased = new boolean[MAX_DUCKS];

        void copyFrom(Ducks other) {
            count = other.count;
            for (int i = 0; i < MAX_DUCKS; i++) {
                bath[i] = other.bath[i];
                low[i] = other.low[i];
                high[i] = other.high[i];
                quackCount[i] = other.quackCount[i];
                wasPleased[i] = other.wasPleased[i];
            }
        }

        boolean isPleased(int duck, Baths baths) {
            int observed = bath[duck];
            int degrees = roundedDegrees(baths.heat[observed], baths.volume[observed]);
            return baths.hasWater(observed) && degrees >= low[duck] && degrees <= high[duck];
        }

        int pleasedCount(Baths baths) {
            int pleased = 0;
            for (int i = 0; i < count; i++) {
                if (isPleased(i, baths)) {
                    pleased++;
                }
            }
            return pleased;
        }

        void observe(Baths baths) {
            for (int i = 0; i < count; i++) {
                boolean isPleased = isPleased(i, baths);
                if (wasPleased[i] && !isPleased) {
                    quackCount[i]++;
                }
                wasPleased[i] = isPleased;
            }
        }

        int atRank(int rank, Baths baths) {
            for (int i = 0; i < count; i++) {
                if (rankOf(i, baths) == rank) {
                    return i;
                }
            }
            return NONE;
        }

        private int rankOf(int duck, Baths baths) {
            int before = 0;
            for (int i = 0; i < count; i++) {
                if (ranksBefore(i, duck, baths)) {
                    before++;
                }
            }
            return before;
        }

        private boolean ranksBefore(int first, int second, Baths baths) {
            if (quackCount[first] != quackCount[second]) {
                return quackCount[first] > quackCount[second];
            }
            boolean firstIsPleased = isPleased(first, baths);
            return firstIsPleased == isPleased(second, baths) ? first < second : firstIsPleased;
        }
    }

    /** The remembered events, the latest at 0. */
    private static final class Events {
        int count = 0;
        final char[] kind = new char[MAX_EVENTS];
        final int[] bath = new int[MAX_EVENTS];
        final int[] litres = new int[MAX_EVENTS];

        void copyFrom(Events other) {
            count = other.count;
            for (int i = 0; i < MAX_EVENTS; i++) {
                kind[i] = other.kind[i];
                bath[i] = other.bath[i];
                litres[i] = other.litres[i];
            }
        }

        void note(char newKind, int newBath, int newLitres) {
            for (int i = MAX_EVENTS - 1; i > 0; i--) {
                kind[i] = kind[i - 1];
                bath[i] = bath[i - 1];
                litres[i] = litres[i - 1];
            }
            kind[0] = newKind;
            bath[0] = newBath;
            litres[0] = newLitres;
            count = Math.min(MAX_EVENTS, count + 1);
        }
    }

    /** What is counted from the beginning on. */
    private static final class Totals {
        int ticks = 0;
        int defections = 0;
        int litresTapped = 0;
        int litresDrained = 0;
        int heatTapped = 0;
        int heatLost = 0;

        void copyFrom(Totals other) {
            ticks = other.ticks;
            defections = other.defections;
            litresTapped = other.litresTapped;
            litresDrained = other.litresDrained;
            heatTapped = other.heatTapped;
            heatLost = other.heatLost;
        }
    }

    /**
     * All that undo and the snapshot cover. Each change has a method that tells its fault and one that makes it, which
     * is called only where there is no fault.
     */
    private static final class State {
        final Baths baths = new Baths();
        final Ducks ducks = new Ducks();
        final Events events = new Events();
        final Totals totals = new Totals();

        void copyFrom(State other) {
            baths.copyFrom(other.baths);
            ducks.copyFrom(other.ducks);
            events.copyFrom(other.events);
            totals.copyFrom(other.totals);
        }

        int placeBathFault() {
            return baths.count >= MAX_BATHS ? WRONG_STATE : NO_FAULT;
        }

        int placeBath() {
            int bath = baths.count;
            baths.plugged[bath] = true;
            baths.count++;
            return bath;
        }

        int fillFault(int bath, int tap, int litres) {
            if (!baths.has(bath)) {
                return NO_SUCH_INDEX;
            }
            if (!isTap(tap) || litres < 1 || litres > MAX_TAPPED) {
                return BAD_ARGUMENT;
            }
            return baths.volume[bath] + litres > MAX_VOLUME ? NOT_POSSIBLE : NO_FAULT;
        }

        void fill(int bath, int tap, int litres) {
            int units = litres * TAP_DEGREES[tap];
            baths.volume[bath] += litres;
            baths.heat[bath] += units;
            totals.litresTapped += litres;
            totals.heatTapped += units;
            events.note('t', bath, litres);
            ducks.observe(baths);
        }

        int plugFault(int bath) {
            return baths.has(bath) ? NO_FAULT : NO_SUCH_INDEX;
        }

        void plug(int bath, boolean isIn) {
            baths.plugged[bath] = isIn;
        }

        int transferFault(int from, int to, int litres) {
            if (!baths.has(from) || !baths.has(to)) {
                return NO_SUCH_INDEX;
            }
            if (from == to || litres < 1 || litres > MAX_POURED) {
                return BAD_ARGUMENT;
            }
            if (baths.volume[from] < litres) {
                return NOT_THERE;
            }
            return baths.volume[to] + litres > MAX_VOLUME ? NOT_POSSIBLE : NO_FAULT;
        }

        int transfer(int from, int to, int litres) {
            int units = baths.heatOf(from, litres);
            baths.volume[from] -= litres;
            baths.heat[from] -= units;
            baths.volume[to] += litres;
            baths.heat[to] += units;
            events.note('p', from, litres);
            ducks.observe(baths);
            return units;
        }

        int placeDuckFault(int bath, int low, int high) {
            if (!baths.has(bath)) {
                return NO_SUCH_INDEX;
            }
            if (low < 0 || high > MAX_BOUND || low > high) {
                return BAD_ARGUMENT;
            }
            return ducks.count >= MAX_DUCKS ? WRONG_STATE : NO_FAULT;
        }

        int placeDuck(int bath, int low, int high) {
            int duck = ducks.count;
            ducks.bath[duck] = bath;
            ducks.low[duck] = low;
            ducks.high[duck] = high;
            ducks.wasPleased[duck] = ducks.isPleased(duck, baths);
            ducks.count++;
            return duck;
        }

        int admitFault(int bath) {
            if (!baths.has(bath)) {
                return NO_SUCH_INDEX;
            }
            if (baths.member[bath]) {
                return WRONG_STATE;
            }
            int degrees = baths.degrees(bath);
            boolean mayJoin = baths.hasWater(bath) && degrees >= MIN_JOINING_DEGREES && degrees <= MAX_JOINING_DEGREES;
            return mayJoin ? NO_FAULT : NOT_POSSIBLE;
        }

        void admit(int bath) {
            baths.member[bath] = true;
            events.note('j', bath, NONE);
        }

        int dismissFault(int bath) {
            if (!baths.has(bath)) {
                return NO_SUCH_INDEX;
            }
            return baths.member[bath] ? NO_FAULT : WRONG_STATE;
        }

        void dismiss(int bath) {
            baths.member[bath] = false;
            events.note('l', bath, NONE);
        }

        int passTicksFault(int ticks) {
            return ticks < 1 || ticks > MAX_TICKS ? BAD_ARGUMENT : NO_FAULT;
        }

        void passTicks(int ticks) {
            for (int i = 0; i < ticks; i++) {
                tick();
            }
        }

        void tick() {
            loseHeatToRoom();
            drain();
            baths.shareHeat();
            defect();
            totals.ticks++;
            ducks.observe(baths);
        }

        private void loseHeatToRoom() {
            for (int i = 0; i < baths.count; i++) {
                if (baths.hasWater(i)) {
                    int units = (baths.heat[i] - ROOM_DEGREES * baths.volume[i]) / 10;
                    baths.heat[i] -= units;
                    totals.heatLost += units;
                }
            }
        }

        private void drain() {
            for (int i = 0; i < baths.count; i++) {
                if (baths.hasWater(i) && !baths.plugged[i]) {
                    int litres = Math.min(MAX_DRAINED, baths.volume[i]);
                    int units = baths.heatOf(i, litres);
                    baths.volume[i] -= litres;
                    baths.heat[i] -= units;
                    totals.litresDrained += litres;
                    totals.heatLost += units;
                }
            }
        }

        private void defect() {
            for (int i = 0; i < baths.count; i++) {
                if (baths.member[i] && (!baths.hasWater(i) || baths.degrees(i) < MIN_STAYING_DEGREES)) {
                    baths.member[i] = false;
                    totals.defections++;
                    events.note('d', i, NONE);
                }
            }
        }
    }

    /** The states before the latest changes, in a ring. */
    private static final class History {
        private final State[] states = new State[MAX_UNDOS];
        private int next = 0;
        int count = 0;

        History() {
            for (int i = 0; i < MAX_UNDOS; i++) {
                states[i] = new State();
            }
        }

        void remember(State state) {
            states[next].copyFrom(state);
            next = (next + 1) % MAX_UNDOS;
            count = Math.min(MAX_UNDOS, count + 1);
        }

        void recall(State state) {
            next = (next + MAX_UNDOS - 1) % MAX_UNDOS;
            state.copyFrom(states[next]);
            count--;
        }

        void forget() {
            count = 0;
        }
    }

    /** The script buffer, and the commands that were read from it. */
    private static final class Script {
        private final char[] text = new char[MAX_SCRIPT];
        int length = 0;
        /** Where the reader stands; it stops for good at the first character that is not allowed. */
        int position = 0;
        boolean malformed = false;
        int count = 0;
        final int[] kind = new int[MAX_COMMANDS];
        final int[] first = new int[MAX_COMMANDS];
        final int[] second = new int[MAX_COMMANDS];
        final int[] third = new int[MAX_COMMANDS];

        void append(char character) {
            text[length] = character;
            length++;
        }

        /** Leaves the commands that were read. */
        void empty() {
            length = 0;
        }

        void read() {
            position = 0;
            malformed = false;
            count = 0;
            boolean isMore = true;
            for (int i = 0; i < MAX_COMMANDS && isMore; i++) {
                readCommand();
                isMore = position < length;
                if (isMore) {
                    readSign(';');
                }
                isMore = isMore && !malformed;
            }
        }

        private void readCommand() {
            switch (peek()) {
                case 'b':
                    readWord("bath");
                    addCommand(BATH_COMMAND, 0, 0, 0);
                    break;
                case 't':
                    readSign('t');
                    readTapOrTick();
                    break;
                case 'p':
                    readSign('p');
                    readPlugOrPour();
                    break;
                case 'd':
                    readDuck();
                    break;
                case 'j':
                    readWord("join ");
                    addCommand(JOIN_COMMAND, readDigit(), 0, 0);
                    break;
                case 'l':
                    readWord("leave ");
                    addCommand(LEAVE_COMMAND, readDigit(), 0, 0);
                    break;
                default:
                    malformed = true;
                    break;
            }
        }

        private void readTapOrTick() {
            if (peek() == 'a') {
                readWord("ap ");
                int bath = readDigit();
                readSign(' ');
                int tap = readTapLetter();
                readSign(' ');
                addCommand(TAP_COMMAND, bath, tap, readNumber());
            } else {
                readWord("ick");
                int ticks = 1;
                if (peek() == ' ') {
                    readSign(' ');
                    ticks = readNumber();
                }
                addCommand(TICK_COMMAND, ticks, 0, 0);
            }
        }

        private void readPlugOrPour() {
            if (peek() == 'l') {
                readWord("lug ");
                int bath = readDigit();
                readSign(' ');
                addCommand(PLUG_COMMAND, bath, readPlugSign(), 0);
            } else {
                readWord("our ");
                int from = readDigit();
                readSign(' ');
                int to = readDigit();
                readSign(' ');
                addCommand(POUR_COMMAND, from, to, readNumber());
            }
        }

        private void readDuck() {
            readWord("duck ");
            int bath = readDigit();
            readSign(' ');
            int low = readNumber();
            readSign(' ');
            addCommand(DUCK_COMMAND, bath, low, readNumber());
        }

        private int readTapLetter() {
            char letter = peek();
            if (letter == 'c') {
                readSign('c');
                return COLD_TAP;
            }
            if (letter == 'w') {
                readSign('w');
                return WARM_TAP;
            }
            readSign('h');
            return HOT_TAP;
        }

        private int readPlugSign() {
            if (peek() == '+') {
                readSign('+');
                return 1;
            }
            readSign('-');
            return 0;
        }

        private int readNumber() {
            int number = readDigit();
            return isDigit(peek()) ? 10 * number + readDigit() : number;
        }

        private int readDigit() {
            char sign = peek();
            if (!isDigit(sign)) {
                malformed = true;
                return 0;
            }
            position++;
            return sign - '0';
        }

        private void readWord(String word) {
            for (int i = 0; i < word.length(); i++) {
                readSign(word.charAt(i));
            }
        }

        private void readSign(char sign) {
            if (peek() != sign) {
                malformed = true;
            }
            if (!malformed) {
                position++;
            }
        }

        /** The sign at the reader's position; the sign 0, which cannot be typed, at the end and behind an error. */
        private char peek() {
            return !malformed && position < length ? text[position] : (char) 0;
        }

        private static boolean isDigit(char sign) {
            return sign >= '0' && sign <= '9';
        }

        private void addCommand(int newKind, int newFirst, int newSecond, int newThird) {
            if (malformed || count >= MAX_COMMANDS) {
                return;
            }
            kind[count] = newKind;
            first[count] = newFirst;
            second[count] = newSecond;
            third[count] = newThird;
            count++;
        }
    }
}
