import java.lang.reflect.Constructor;
import java.lang.reflect.Field;
import java.lang.reflect.Method;
import java.lang.reflect.Modifier;
import java.util.Arrays;
import java.util.Set;
import java.util.TreeSet;
import java.util.stream.Collectors;

/** The public face is the document's, to the word, and promise 1: a new object. */
final class FaceTests {
    private static final String INDEX = "IndexOutOfBoundsException";
    private static final String ARGUMENT = "IllegalArgumentException";
    private static final String STATE = "IllegalStateException";
    private static final String ELEMENT = "NoSuchElementException";
    private static final String UNSUPPORTED = "UnsupportedOperationException";

    private static final String[] METHODS = {
        method("int addBath()", STATE),
        method("int runTap(int,int,int)", INDEX, ARGUMENT, UNSUPPORTED),
        method("boolean setPlug(int,boolean)", INDEX),
        method("int pour(int,int,int)", INDEX, ARGUMENT, ELEMENT, UNSUPPORTED),
        method("int addDuck(int,int,int)", INDEX, ARGUMENT, STATE),
        method("int join(int)", INDEX, STATE, UNSUPPORTED),
        method("int leave(int)", INDEX, STATE),
        method("int advance(int)", ARGUMENT),
        method("int bathCount()"),
        method("int volume(int)", INDEX),
        method("int heat(int)", INDEX),
        method("int temperature(int)", INDEX, ELEMENT),
        method("double exactTemperature(int)", INDEX, ELEMENT),
        method("boolean isWarmer(int,int)", INDEX, ELEMENT),
        method("boolean isPlugged(int)", INDEX),
        method("int bathByTemperature(int)", ELEMENT),
        method("int litresToReach(int,int,int)", INDEX, ARGUMENT, ELEMENT, UNSUPPORTED),
        method("int litresToReachByFormula(int,int,int)", INDEX, ARGUMENT, ELEMENT, UNSUPPORTED),
        method("boolean isMember(int)", INDEX),
        method("int memberCount()"),
        method("int leagueHeat()"),
        method("int leagueHeatByOthers()"),
        method("int warmestMember()", ELEMENT),
        method("int coldestMember()", ELEMENT),
        method("int sharedHeat()", ELEMENT),
        method("int ticksUntilDefection(int)", INDEX, STATE, ELEMENT),
        method("int heatAfter(int,int)", INDEX, ARGUMENT),
        method("int duckCount()"),
        method("int observedBath(int)", INDEX),
        method("int lowerBound(int)", INDEX),
        method("int upperBound(int)", INDEX),
        method("boolean isContent(int)", INDEX),
        method("int quacks(int)", INDEX),
        method("int duckByQuacks(int)", ELEMENT),
        method("int eventCount()"),
        method("char eventKind(int)", ELEMENT),
        method("int eventBath(int)", ELEMENT),
        method("int eventLitres(int)", ELEMENT),
        method("int time()"),
        method("int defectionTotal()"),
        method("int tappedLitres()"),
        method("int drainedLitres()"),
        method("int tappedHeat()"),
        method("int lostHeat()"),
        method("float contentShare()", "ArithmeticException"),
        method("boolean isConsistent()"),
        method("int renderBath(int)", INDEX),
        method("char outputAt(int)", INDEX),
        method("int type(char)", ARGUMENT, STATE),
        method("int runScript()", ARGUMENT, STATE),
        method("int errorPosition()", ELEMENT),
        method("int failedCommand()", ELEMENT),
        method("int undo()", ELEMENT),
        method("int save()"),
        method("int restore()", STATE),
    };

    private FaceTests() {
    }

    static void run() {
        Check.test("the public face is the document's", FaceTests::face);
        Check.test("nothing but the face is seen from outside", FaceTests::nothingElse);
        Check.test("no private method bears the name of a public one", FaceTests::names);
        Check.test("promise 1: a new object", FaceTests::newObject);
        Check.test("promise 1: objects share nothing", FaceTests::twoObjects);
    }

    private static String method(String signature, String... exceptions) {
        return signature + " " + Arrays.toString(exceptions);
    }

    private static String written(Method method) {
        String parameters = Arrays.stream(method.getParameterTypes()).map(Class::getName)
                .collect(Collectors.joining(","));
        return method.getReturnType().getName() + " " + method.getName() + "(" + parameters + ") "
                + Arrays.stream(method.getExceptionTypes()).map(Class::getSimpleName).collect(Collectors.toList());
    }

    private static void face() {
        Set<String> got = new TreeSet<>();
        for (Method method : BathLeague.class.getDeclaredMethods()) {
            if (Modifier.isPublic(method.getModifiers())) {
                Check.due(method + " is static", Modifier.isStatic(method.getModifiers()), false);
                got.add(written(method));
            }
        }
        Check.due("the public methods", got, new TreeSet<>(Arrays.asList(METHODS)));
        Check.due("the class is public and final",
                BathLeague.class.getModifiers() & (Modifier.PUBLIC | Modifier.FINAL), Modifier.PUBLIC | Modifier.FINAL);
        Check.due("constructors", BathLeague.class.getConstructors().length, 1);
        Check.due("the constructor's parameters", BathLeague.class.getConstructors()[0].getParameterCount(), 0);
    }

    private static void nothingElse() {
        for (Method method : BathLeague.class.getDeclaredMethods()) {
            Check.due(method + " is public or private",
                    Modifier.isPublic(method.getModifiers()) || Modifier.isPrivate(method.getModifiers()), true);
        }
        for (Field field : BathLeague.class.getDeclaredFields()) {
            Check.due(field + " is private", Modifier.isPrivate(field.getModifiers()), true);
            Check.due(field + " is final if it is static", !Modifier.isStatic(field.getModifiers())
                    || Modifier.isFinal(field.getModifiers()), true);
        }
        for (Constructor<?> constructor : BathLeague.class.getDeclaredConstructors()) {
            Check.due(constructor + " is public", Modifier.isPublic(constructor.getModifiers()), true);
        }
        for (Class<?> inside : BathLeague.class.getDeclaredClasses()) {
            Check.due(inside + " is static", Modifier.isStatic(inside.getModifiers()), true);
            Check.due(inside + " is hidden",
                    Modifier.isPublic(inside.getModifiers()) || Modifier.isProtected(inside.getModifiers()), false);
        }
    }

    private static void names() {
        Set<String> publicNames = Arrays.stream(BathLeague.class.getDeclaredMethods())
                .filter(method -> Modifier.isPublic(method.getModifiers())).map(Method::getName)
                .collect(Collectors.toSet());
        for (Method method : BathLeague.class.getDeclaredMethods()) {
            if (!Modifier.isPublic(method.getModifiers())) {
                Check.due(method + " has a public one's name", publicNames.contains(method.getName()), false);
            }
        }
        for (Class<?> inside : BathLeague.class.getDeclaredClasses()) {
            for (Method method : inside.getDeclaredMethods()) {
                Check.due(method + " has a public one's name", publicNames.contains(method.getName()), false);
            }
        }
    }

    private static void newObject() {
        BathLeague x = new BathLeague();
        Check.due("bathCount", x.bathCount(), 0);
        Check.due("duckCount", x.duckCount(), 0);
        Check.due("time", x.time(), 0);
        Check.due("memberCount", x.memberCount(), 0);
        Check.due("leagueHeat", x.leagueHeat(), 0);
        Check.due("leagueHeatByOthers", x.leagueHeatByOthers(), 0);
        Check.due("eventCount", x.eventCount(), 0);
        Check.due("defectionTotal", x.defectionTotal(), 0);
        Check.due("tappedLitres", x.tappedLitres(), 0);
        Check.due("drainedLitres", x.drainedLitres(), 0);
        Check.due("tappedHeat", x.tappedHeat(), 0);
        Check.due("lostHeat", x.lostHeat(), 0);
        Check.due("isConsistent", x.isConsistent(), true);
        Check.refused("outputAt(0)", IndexOutOfBoundsException.class, () -> x.outputAt(0));
        Check.refused("errorPosition", java.util.NoSuchElementException.class, x::errorPosition);
        Check.refused("failedCommand", java.util.NoSuchElementException.class, x::failedCommand);
        Check.refused("undo", java.util.NoSuchElementException.class, x::undo);
        Check.refused("restore", IllegalStateException.class, x::restore);
        Check.due("type", x.type('b'), 1);
    }

    private static void twoObjects() {
        BathLeague first = Leagues.withBaths(2);
        first.runTap(0, Leagues.HOT, 5);
        first.save();
        BathLeague second = new BathLeague();
        Check.due("bathCount of the second", second.bathCount(), 0);
        Check.refused("restore of the second", IllegalStateException.class, second::restore);
        second.addBath();
        Check.due("volume of the second", second.volume(0), 0);
        Check.due("volume of the first", first.volume(0), 5);
    }
}
