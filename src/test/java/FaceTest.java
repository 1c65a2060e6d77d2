import java.lang.management.ManagementFactory;
import java.lang.reflect.Constructor;
import java.lang.reflect.Field;
import java.lang.reflect.Method;
import java.lang.reflect.Modifier;
import java.util.Arrays;
import java.util.Set;
import java.util.TreeSet;

/** The public face, the memory of the class, and that each promise has a test. */
final class FaceTest {
    private static final Class<?>[] TESTS = {
        SettingTest.class, RuleTest.class, ChainTest.class, PairingTest.class, AwardTest.class, StateTest.class};
    private static final int PROMISES = 23;

    private static final String ARGUMENT = "IllegalArgumentException";
    private static final String ELEMENT = "NoSuchElementException";
    private static final String STATE = "IllegalStateException";
    private static final String[] FACE = {
        "void zone(4) " + ARGUMENT,
        "void flight(6) " + ARGUMENT,
        "boolean drop(1) " + ARGUMENT,
        "boolean move(2) " + ARGUMENT,
        "void rule(2) " + ARGUMENT,
        "void limit(3) " + ARGUMENT,
        "void crew(5) " + ARGUMENT,
        "void off(3) " + ARGUMENT + " " + ELEMENT,
        "int clear(0)",
        "int chain(1) " + ARGUMENT + " " + STATE,
        "int check(1) " + ARGUMENT + " " + ELEMENT,
        "int span(1) " + ARGUMENT + " " + ELEMENT,
        "int pairings(0)",
        "int pairing(2) " + ELEMENT,
        "int cover(0)",
        "boolean covers(1) " + ELEMENT,
        "int bid(4) " + ARGUMENT + " " + ELEMENT + " " + STATE,
        "boolean award(0) " + STATE,
        "int owner(1) " + ELEMENT,
        "int score(1) " + ARGUMENT + " " + ELEMENT,
        "int local(2) " + ARGUMENT,
        "int look(1) " + ARGUMENT};

    private static final Due due = new Due("FaceTest");

    public static void main(String[] args) {
        due.runAll(FaceTest.class);
    }

    /** The face has this constructor, these methods, and nothing else that others can see. */
    private static void promise01HasThisFace() {
        due.equal("public and final", CrewOffice.class.getModifiers(), Modifier.PUBLIC | Modifier.FINAL);
        Constructor<?>[] made = CrewOffice.class.getDeclaredConstructors();
        due.equal("constructors", made.length, 1);
        due.equal("its parameters", made[0].getParameterCount(), 0);
        due.equal("it is public", Modifier.isPublic(made[0].getModifiers()), true);
        Set<String> methods = new TreeSet<>();
        for (Method method : CrewOffice.class.getDeclaredMethods()) {
            if (!Modifier.isPrivate(method.getModifiers()) && !method.isSynthetic()) {
                methods.add(signature(method));
            }
        }
        due.equal("methods", methods.toString(), new TreeSet<>(Arrays.asList(FACE)).toString());
        for (Field field : CrewOffice.class.getDeclaredFields()) {
            due.equal(field.getName() + " is private", Modifier.isPrivate(field.getModifiers()), true);
        }
    }

    private static String signature(Method method) {
        StringBuilder text = new StringBuilder();
        text.append(method.getReturnType()).append(' ').append(method.getName());
        text.append('(').append(method.getParameterCount()).append(')');
        for (Class<?> parameter : method.getParameterTypes()) {
            due.equal("a parameter of " + method.getName() + " is an int", parameter == int.class, true);
        }
        for (Class<?> thrown : method.getExceptionTypes()) {
            text.append(' ').append(thrown.getSimpleName());
        }
        return text.toString();
    }

    /** Terms: "All memory is the class's own, made once.": calls that throw nothing make no objects. */
    private static void promise01MakesItsMemoryOnce() {
        if (!(ManagementFactory.getThreadMXBean() instanceof com.sun.management.ThreadMXBean)) {
            due.equal("memory is not measured here", true, true);
            return;
        }
        com.sun.management.ThreadMXBean threads = (com.sun.management.ThreadMXBean) ManagementFactory.getThreadMXBean();
        CrewOffice x = Scene.busy();
        useAll(x);
        long before = threads.getCurrentThreadAllocatedBytes();
        for (int k = 0; k < 10; k++) {
            useAll(x);
        }
        long made = threads.getCurrentThreadAllocatedBytes() - before;
        // what the measuring makes by itself is far below a row of an int for each flight in each round
        due.equal("bytes made by 10 rounds: " + made, made < 10 * 64, true);
    }

    /** Some forty calls; none of them throws. */
    private static void useAll(CrewOffice x) {
        x.zone(0, 60, 10000, 0);
        x.flight(0, 0, 1, 480, 600, 0);
        x.drop(4);
        x.flight(4, 1, 0, 670, 790, 0);
        x.move(0, 0);
        x.rule(0, 60);
        x.limit(0, 1, 720);
        x.crew(0, 0, 5, 7, 100);
        x.off(0, 9000, 9001);
        x.bid(0, 0, 1, 30);
        x.clear();
        x.chain(2);
        x.chain(3);
        x.pairings();
        x.cover();
        x.award();
        for (int n = 0; n < 5; n++) {
            x.check(n % 2);
            x.span(n);
            x.look(n);
            x.covers(n);
            x.owner(n);
            x.score(n % 2);
            x.local(n, 0);
        }
    }

    /** For each promise there is a test with its number in its name. */
    private static void promise01To23HaveTests() {
        Set<Integer> tested = new TreeSet<>();
        for (Class<?> test : TESTS) {
            for (Method method : test.getDeclaredMethods()) {
                if (method.getName().startsWith(Due.TEST)) {
                    int from = Due.TEST.length();
                    tested.add(Integer.parseInt(method.getName().substring(from, from + 2)));
                }
            }
        }
        for (int promise = 1; promise <= PROMISES; promise++) {
            due.equal("a test of promise " + promise, tested.contains(promise), true);
        }
        due.equal("promises with a test", tested.size(), PROMISES);
    }
}
