import java.math.BigInteger;
import java.util.ArrayDeque;
import java.util.ArrayList;
import java.util.Arrays;
import java.util.Comparator;
import java.util.Deque;
import java.util.List;
import java.util.NoSuchElementException;
import java.util.regex.Matcher;
import java.util.regex.Pattern;
import java.util.stream.Collectors;
import java.util.stream.IntStream;

/**
 * The document once more, in the plainest form and by other means than BathLeague: fractions, sorted lists, whole
 * copies, a log without a limit, and regular expressions. ModelTests holds the two against each other.
 */
final class Model {
    /** An amount of heat over a volume, compared exactly. */
    private record Fraction(long heat, long litres) implements Comparable<Fraction> {
        @Override
        public int compareTo(Fraction other) {
            return BigInteger.valueOf(heat).multiply(BigInteger.valueOf(other.litres))
                    .compareTo(BigInteger.valueOf(other.heat).multiply(BigInteger.valueOf(litres)));
        }
    }

    private record Event(char kind, int bath, Integer litres) {
    }

    private static final class Tub {
        int litres = 0;
        int heat = 0;
        boolean isIn = true;
        boolean isMember = false;

        Tub copy() {
            Tub copy = new Tub();
            copy.litres = litres;
            copy.heat = heat;
            copy.isIn = isIn;
            copy.isMember = isMember;
            return copy;
        }

        Fraction warmth() {
            return new Fraction(heat, litres);
        }
    }

    private static final class Duck {
        int bath;
        int low;
        int high;
        int quacks = 0;
        boolean wasContent;

        Duck copy() {
            Duck copy = new Duck();
            copy.bath = bath;
            copy.low = low;
            copy.high = high;
            copy.quacks = quacks;
            copy.wasContent = wasContent;
            return copy;
        }
    }

    private static final class World {
        List<Tub> tubs = new ArrayList<>();
        List<Duck> ducks = new ArrayList<>();
        List<Event> log = new ArrayList<>();
        int time = 0;
        int defections = 0;
        int tappedLitres = 0;
        int drainedLitres = 0;
        int tappedHeat = 0;
        int lostHeat = 0;

        World copy() {
            World copy = new World();
            tubs.forEach(tub -> copy.tubs.add(tub.copy()));
            ducks.forEach(duck -> copy.ducks.add(duck.copy()));
            copy.log.addAll(log);
            copy.time = time;
            copy.defections = defections;
            copy.tappedLitres = tappedLitres;
            copy.drainedLitres = drainedLitres;
            copy.tappedHeat = tappedHeat;
            copy.lostHeat = lostHeat;
            return copy;
        }

        Tub tub(int bath) {
            if (bath < 0 || bath >= tubs.size()) {
                throw new IndexOutOfBoundsException();
            }
            return tubs.get(bath);
        }

        Tub wetTub(int bath) {
            Tub tub = tub(bath);
            if (tub.litres == 0) {
                throw new NoSuchElementException();
            }
            return tub;
        }

        Duck duck(int duck) {
            if (duck < 0 || duck >= ducks.size()) {
                throw new IndexOutOfBoundsException();
            }
            return ducks.get(duck);
        }

        boolean content(Duck duck) {
            Tub tub = tubs.get(duck.bath);
            return tub.litres > 0 && tub.heat / tub.litres >= duck.low && tub.heat / tub.litres <= duck.high;
        }

        void moment() {
            for (Duck duck : ducks) {
                if (duck.wasContent && !content(duck)) {
                    duck.quacks++;
                }
                duck.wasContent = content(duck);
            }
        }

        List<Integer> wetMembers() {
            return IntStream.range(0, tubs.size())
                    .filter(i -> tubs.get(i).isMember && tubs.get(i).litres > 0).boxed().collect(Collectors.toList());
        }

        Comparator<Integer> byWarmth() {
            return Comparator.comparing(i -> tubs.get(i).warmth());
        }

        int warmest() {
            return wetMembers().stream().sorted(byWarmth().reversed().thenComparing(Comparator.naturalOrder()))
                    .findFirst().orElseThrow(NoSuchElementException::new);
        }

        int coldest() {
            return wetMembers().stream().sorted(byWarmth().thenComparing(Comparator.naturalOrder()))
                    .findFirst().orElseThrow(NoSuchElementException::new);
        }

        int shared() {
            if (wetMembers().size() < 2) {
                throw new NoSuchElementException();
            }
            Tub giver = tubs.get(warmest());
            Tub receiver = tubs.get(coldest());
            if (giver.warmth().compareTo(receiver.warmth()) == 0) {
                return 0;
            }
            return Math.min(20, (giver.heat * receiver.litres - receiver.heat * giver.litres)
                    / (giver.litres + receiver.litres));
        }

        void tick() {
            for (Tub tub : tubs) {
                int loss = tub.litres == 0 ? 0 : (tub.heat - 20 * tub.litres) / 10;
                tub.heat -= loss;
                lostHeat += loss;
            }
            for (Tub tub : tubs) {
                if (!tub.isIn && tub.litres > 0) {
                    int litres = tub.litres < 3 ? tub.litres : 3;
                    int loss = tub.heat * litres / tub.litres;
                    tub.litres -= litres;
                    tub.heat -= loss;
                    drainedLitres += litres;
                    lostHeat += loss;
                }
            }
            if (wetMembers().size() >= 2) {
                int units = shared();
                int giver = warmest();
                int receiver = coldest();
                tubs.get(giver).heat -= units;
                tubs.get(receiver).heat += units;
            }
            for (int i = 0; i < tubs.size(); i++) {
                Tub tub = tubs.get(i);
                if (tub.isMember && (tub.litres == 0 || tub.heat / tub.litres < 25)) {
                    tub.isMember = false;
                    defections++;
                    log.add(new Event('d', i, null));
                }
            }
            time++;
            moment();
        }
    }

    private static final int[] DEGREES = {10, 40, 70};
    private static final String NUMBER = "[0-9][0-9]?";
    private static final String COMMAND = "(?:bath|tap [0-9] [cwh] " + NUMBER + "|plug [0-9] [+-]|pour [0-9] [0-9] "
            + NUMBER + "|duck [0-9] " + NUMBER + " " + NUMBER + "|(?:join|leave) [0-9]|tick(?: " + NUMBER + ")?)";
    private static final Pattern SCRIPT = Pattern.compile(COMMAND + "(?:;" + COMMAND + ")*");

    private World world = new World();
    private World saved = null;
    private final Deque<World> past = new ArrayDeque<>();
    private String typed = "";
    private String output = "";
    private Integer errorPosition = null;
    private Integer failedCommand = null;

    private void changed(World before) {
        past.push(before);
        if (past.size() > 8) {
            past.removeLast();
        }
    }

    private static void require(boolean holds, RuntimeException otherwise) {
        if (!holds) {
            throw otherwise;
        }
    }

    private static boolean isTap(int tap) {
        return tap == 0 || tap == 1 || tap == 2;
    }

    /** A change by its name in the language of scripts; throws before anything is changed. */
    private static Object doChange(World world, String name, int... a) {
        switch (name) {
            case "bath":
                require(world.tubs.size() < 5, new IllegalStateException());
                world.tubs.add(new Tub());
                return world.tubs.size() - 1;
            case "tap":
                return doTap(world, a[0], a[1], a[2]);
            case "plug":
                boolean wasIn = world.tub(a[0]).isIn;
                world.tub(a[0]).isIn = a[1] == 1;
                return wasIn;
            case "pour":
                return doPour(world, a[0], a[1], a[2]);
            case "duck":
                return doDuck(world, a[0], a[1], a[2]);
            case "join":
                require(!world.tub(a[0]).isMember, new IllegalStateException());
                Tub joining = world.tub(a[0]);
                require(joining.litres > 0, new UnsupportedOperationException());
                require(joining.heat / joining.litres >= 30 && joining.heat / joining.litres <= 45,
                        new UnsupportedOperationException());
                joining.isMember = true;
                world.log.add(new Event('j', a[0], null));
                return members(world);
            case "leave":
                require(world.tub(a[0]).isMember, new IllegalStateException());
                world.tub(a[0]).isMember = false;
                world.log.add(new Event('l', a[0], null));
                return members(world);
            default:
                require(a[0] >= 1 && a[0] <= 20, new IllegalArgumentException());
                int before = world.defections;
                for (int i = 0; i < a[0]; i++) {
                    world.tick();
                }
                return world.defections - before;
        }
    }

    private static Object doTap(World world, int bath, int tap, int litres) {
        Tub tub = world.tub(bath);
        require(isTap(tap) && litres >= 1 && litres <= 20, new IllegalArgumentException());
        require(tub.litres + litres <= 100, new UnsupportedOperationException());
        tub.litres += litres;
        tub.heat += litres * DEGREES[tap];
        world.tappedLitres += litres;
        world.tappedHeat += litres * DEGREES[tap];
        world.log.add(new Event('t', bath, litres));
        world.moment();
        return tub.litres;
    }

    private static Object doPour(World world, int from, int to, int litres) {
        Tub first = world.tub(from);
        Tub second = world.tub(to);
        require(from != to && litres >= 1 && litres <= 99, new IllegalArgumentException());
        require(first.litres >= litres, new NoSuchElementException());
        require(second.litres + litres <= 100, new UnsupportedOperationException());
        int units = first.heat * litres / first.litres;
        first.litres -= litres;
        first.heat -= units;
        second.litres += litres;
        second.heat += units;
        world.log.add(new Event('p', from, litres));
        world.moment();
        return units;
    }

    private static Object doDuck(World world, int bath, int low, int high) {
        world.tub(bath);
        require(0 <= low && low <= 99 && 0 <= high && high <= 99 && low <= high, new IllegalArgumentException());
        require(world.ducks.size() < 6, new IllegalStateException());
        Duck duck = new Duck();
        duck.bath = bath;
        duck.low = low;
        duck.high = high;
        duck.wasContent = world.content(duck);
        world.ducks.add(duck);
        return world.ducks.size() - 1;
    }

    private static int members(World world) {
        return (int) world.tubs.stream().filter(tub -> tub.isMember).count();
    }

    private Object change(String name, int... a) {
        World after = world.copy();
        Object answer = doChange(after, name, a);
        changed(world);
        world = after;
        return answer;
    }

    /** A call of the face by its name; every argument and a boolean's are numbers. */
    Object call(String name, int... a) {
        switch (name) {
            case "addBath": return change("bath");
            case "runTap": return change("tap", a);
            case "setPlug": return change("plug", a);
            case "pour": return change("pour", a);
            case "addDuck": return change("duck", a);
            case "join": return change("join", a);
            case "leave": return change("leave", a);
            case "advance": return change("tick", a);
            case "renderBath": return render(a[0]);
            case "outputAt":
                require(a[0] >= 0 && a[0] < output.length(), new IndexOutOfBoundsException());
                return output.charAt(a[0]);
            case "type":
                require(a[0] >= 32 && a[0] <= 126, new IllegalArgumentException());
                require(typed.length() < 60, new IllegalStateException());
                typed += (char) a[0];
                return typed.length();
            case "runScript": return runScript();
            case "errorPosition":
                require(errorPosition != null, new NoSuchElementException());
                return errorPosition;
            case "failedCommand":
                require(failedCommand != null, new NoSuchElementException());
                return failedCommand;
            case "undo":
                require(!past.isEmpty(), new NoSuchElementException());
                world = past.pop();
                return past.size();
            case "save":
                saved = world.copy();
                return world.tubs.size();
            case "restore":
                require(saved != null, new IllegalStateException());
                world = saved.copy();
                past.clear();
                return world.tubs.size();
            default: return query(name, a);
        }
    }

    private Object query(String name, int... a) {
        switch (name) {
            case "bathCount": return world.tubs.size();
            case "volume": return world.tub(a[0]).litres;
            case "heat": return world.tub(a[0]).heat;
            case "temperature": return world.wetTub(a[0]).heat / world.wetTub(a[0]).litres;
            case "exactTemperature": return world.wetTub(a[0]).heat * 1.0 / world.wetTub(a[0]).litres;
            case "isWarmer":
                world.tub(a[0]);
                world.tub(a[1]);
                return world.wetTub(a[0]).warmth().compareTo(world.wetTub(a[1]).warmth()) > 0;
            case "isPlugged": return world.tub(a[0]).isIn;
            case "bathByTemperature": return element(bathsByTemperature(), a[0]);
            case "litresToReach": case "litresToReachByFormula": return litresToReach(a[0], a[1], a[2]);
            case "isMember": return world.tub(a[0]).isMember;
            case "memberCount": return members(world);
            case "leagueHeat": case "leagueHeatByOthers":
                return world.tubs.stream().filter(tub -> tub.isMember).mapToInt(tub -> tub.heat).sum();
            case "warmestMember": return world.warmest();
            case "coldestMember": return world.coldest();
            case "sharedHeat": return world.shared();
            case "ticksUntilDefection": return ticksUntilDefection(a[0]);
            case "heatAfter":
                world.tub(a[0]);
                require(a[1] >= 0 && a[1] <= 60, new IllegalArgumentException());
                World later = world.copy();
                IntStream.range(0, a[1]).forEach(i -> later.tick());
                return later.tubs.get(a[0]).heat;
            case "duckCount": return world.ducks.size();
            case "observedBath": return world.duck(a[0]).bath;
            case "lowerBound": return world.duck(a[0]).low;
            case "upperBound": return world.duck(a[0]).high;
            case "isContent": return world.content(world.duck(a[0]));
            case "quacks": return world.duck(a[0]).quacks;
            case "duckByQuacks": return element(ducksByQuacks(), a[0]);
            default: return recordQuery(name, a);
        }
    }

    private Object recordQuery(String name, int... a) {
        int remembered = Math.min(10, world.log.size());
        switch (name) {
            case "eventCount": return remembered;
            case "eventKind": return event(a[0]).kind;
            case "eventBath": return event(a[0]).bath;
            case "eventLitres":
                require(event(a[0]).litres != null, new NoSuchElementException());
                return event(a[0]).litres;
            case "time": return world.time;
            case "defectionTotal": return world.defections;
            case "tappedLitres": return world.tappedLitres;
            case "drainedLitres": return world.drainedLitres;
            case "tappedHeat": return world.tappedHeat;
            case "lostHeat": return world.lostHeat;
            case "contentShare":
                require(!world.ducks.isEmpty(), new ArithmeticException());
                return (float) world.ducks.stream().filter(world::content).count() / (float) world.ducks.size();
            case "isConsistent": return true;
            default: throw new UnsupportedOperationException("the model has no " + name);
        }
    }

    private Event event(int recency) {
        require(recency >= 0 && recency < Math.min(10, world.log.size()), new NoSuchElementException());
        return world.log.get(world.log.size() - 1 - recency);
    }

    private static Object element(List<Integer> list, int rank) {
        require(rank >= 0 && rank < list.size(), new NoSuchElementException());
        return list.get(rank);
    }

    private List<Integer> bathsByTemperature() {
        List<Integer> wet = new ArrayList<>();
        List<Integer> dry = new ArrayList<>();
        for (int i = 0; i < world.tubs.size(); i++) {
            (world.tubs.get(i).litres > 0 ? wet : dry).add(i);
        }
        wet.sort(world.byWarmth().reversed());
        wet.addAll(dry);
        return wet;
    }

    private List<Integer> ducksByQuacks() {
        List<Integer> order = IntStream.range(0, world.ducks.size()).boxed().collect(Collectors.toList());
        order.sort(Comparator.<Integer>comparingInt(i -> -world.ducks.get(i).quacks)
                .thenComparing(i -> world.content(world.ducks.get(i)) ? 0 : 1));
        return order;
    }

    private Object litresToReach(int bath, int tap, int target) {
        world.tub(bath);
        require(isTap(tap) && target >= 0 && target <= 99, new IllegalArgumentException());
        Tub tub = world.wetTub(bath);
        return IntStream.rangeClosed(0, 100 - tub.litres).filter(litres -> {
            int degrees = (tub.heat + litres * DEGREES[tap]) / (tub.litres + litres);
            return tap == 0 ? degrees <= target : degrees >= target;
        }).boxed().findFirst().orElseThrow(UnsupportedOperationException::new);
    }

    private Object ticksUntilDefection(int bath) {
        require(world.tub(bath).isMember, new IllegalStateException());
        World later = world.copy();
        int ticks = 0;
        while (later.tubs.get(bath).isMember) {
            require(ticks < 60, new NoSuchElementException());
            later.tick();
            ticks++;
        }
        return ticks;
    }

    private Object render(int bath) {
        Tub tub = world.tub(bath);
        String warmth = tub.litres > 0 ? tub.heat / tub.litres + "C" : "";
        output = bath + ":" + tub.litres + "l" + warmth + (tub.isIn ? "+" : "-") + (tub.isMember ? "*" : "");
        return output.length();
    }

    private Object runScript() {
        String script = typed;
        typed = "";
        if (!SCRIPT.matcher(script).matches()) {
            errorPosition = errorPositionOf(script);
            throw new IllegalArgumentException();
        }
        String[] commands = script.split(";");
        World after = world.copy();
        for (int i = 0; i < commands.length; i++) {
            try {
                doCommand(after, commands[i].split(" "));
            } catch (RuntimeException e) {
                failedCommand = i;
                throw new IllegalStateException(e);
            }
        }
        changed(world);
        world = after;
        return commands.length;
    }

    static boolean isScript(String script) {
        return SCRIPT.matcher(script).matches();
    }

    static int errorPositionOf(String script) {
        for (int end = 1; end <= script.length(); end++) {
            Matcher matcher = SCRIPT.matcher(script.substring(0, end));
            if (!matcher.matches() && !matcher.hitEnd()) {
                return end - 1;
            }
        }
        return script.length();
    }

    private static void doCommand(World world, String[] words) {
        int[] arguments = Arrays.stream(words).skip(1).mapToInt(Model::argument).toArray();
        doChange(world, words[0], words.length == 1 ? new int[] {1} : arguments);
    }

    private static int argument(String word) {
        int sign = "cwh".indexOf(word);
        if (sign >= 0) {
            return sign;
        }
        return word.equals("+") ? 1 : word.equals("-") ? 0 : Integer.parseInt(word);
    }
}
