import java.lang.reflect.Constructor;
import java.lang.reflect.Field;
import java.lang.reflect.Method;
import java.lang.reflect.Modifier;
import java.util.ArrayList;
import java.util.Arrays;
import java.util.Collections;
import java.util.List;

/** The public face: just what the document lists, and promise 1. */
final class FaceTest {
    private static final String[] FACE = {
        "addTown() int ISE",
        "build(int,int,int,int,int,int) int IOOBE IAE ISE",
        "road(int,int,int) int IOOBE",
        "makeUp(int,int,int) int IOOBE IAE ISE",
        "rumour(int,int) int IOOBE",
        "town(int,int) int IOOBE",
        "heard(int,int) int IOOBE",
        "addCarrier(int,int) int IOOBE IAE ISE",
        "take(int,int) int IOOBE ISE",
        "leave(int,int) int IOOBE ISE",
        "hide(int,int,boolean) int IOOBE ISE",
        "tell(int,int) int IOOBE ISE",
        "go(int,int,int) int IOOBE IAE ISE",
        "carrier(int,int) int IOOBE",
        "wouldPay(int,int,int) int IOOBE IAE ISE",
        "pass(int) int IAE",
        "count(int) int IOOBE",
        "cheapest(int,int,int,int) int IOOBE",
        "spread(int,int) int IOOBE",
        "hearsay() double",
        "digest() long",
    };

    static void theMethodsAreThoseOfTheDocument() {
        List<String> found = new ArrayList<>();
        for (Method each : RumourCustoms.class.getDeclaredMethods()) {
            if (!Modifier.isPrivate(each.getModifiers()) && !each.isSynthetic()) {
                Check.holds(Modifier.isPublic(each.getModifiers()), each.getName() + " is not public");
                found.add(written(each));
            }
        }
        List<String> due = new ArrayList<>(Arrays.asList(FACE));
        Collections.sort(due);
        Collections.sort(found);
        Check.holds(found.equals(due), "the face is " + found);
    }

    static void nothingElseIsSeenFromOutside() {
        Check.holds(Modifier.isFinal(RumourCustoms.class.getModifiers()), "the class is not final");
        Constructor<?>[] made = RumourCustoms.class.getDeclaredConstructors();
        Check.same(made.length, 1);
        Check.holds(Modifier.isPublic(made[0].getModifiers()), "the constructor is not public");
        Check.same(made[0].getParameterCount(), 0);
        for (Field each : RumourCustoms.class.getDeclaredFields()) {
            Check.holds(Modifier.isPrivate(each.getModifiers()), each.getName() + " is not private");
        }
    }

    static void promise1ANewLandIsEmpty() {
        RumourCustoms land = new RumourCustoms();
        Check.row(land::count, 0, 0, 0, 0, 0, 0, 0, 0, 0, 0, 0);
        Check.same(land.hearsay(), 0.0);
        Check.refuses(land, Check.NO_SUCH, () -> land.town(0, 0));
        Check.refuses(land, Check.NO_SUCH, () -> land.rumour(0, 0));
        Check.refuses(land, Check.NO_SUCH, () -> land.carrier(0, 0));
    }

    static void promise1TwoLandsShareNothing() {
        RumourCustoms one = Lands.withRoad(3, 100);
        RumourCustoms other = new RumourCustoms();
        Lands.inBag(one, 0, 5, 1);
        one.go(0, 1, 1);
        Check.row(other::count, 0, 0, 0, 0, 0, 0, 0, 0, 0, 0, 0);
    }

    /** The example of README.md answers what is written beside it. */
    static void theExampleOfTheReadme() {
        RumourCustoms land = new RumourCustoms();
        int here = land.addTown();
        int there = land.addTown();
        land.build(here, there, 2, 10, 5, 4);
        int rumour = land.makeUp(here, 12, 2);
        int carrier = land.addCarrier(here, 500);
        land.take(carrier, rumour);
        Check.same(land.go(carrier, there, 1), 60);
        Check.same(land.pass(2), 1);
        int told = land.tell(carrier, rumour);
        Check.same(told, 1);
        Check.same(land.rumour(told, 1), land.rumour(rumour, 1) + 1);
        Check.same(land.rumour(told, 4), there);
    }

    private static String written(Method method) {
        StringBuilder text = new StringBuilder(method.getName()).append('(');
        Class<?>[] parameters = method.getParameterTypes();
        for (int i = 0; i < parameters.length; i++) {
            text.append(i == 0 ? "" : ",").append(parameters[i].getName());
        }
        text.append(") ").append(method.getReturnType().getName());
        for (Class<?> thrown : method.getExceptionTypes()) {
            text.append(' ').append(thrown.getSimpleName().replaceAll("[a-z]", ""));
        }
        return text.toString();
    }
}
