import java.lang.annotation.ElementType;
import java.lang.annotation.Retention;
import java.lang.annotation.RetentionPolicy;
import java.lang.annotation.Target;
import java.lang.reflect.InvocationTargetException;
import java.lang.reflect.Method;
import java.util.Map;
import java.util.TreeMap;

/** What the tests of single sentences share: a test is a static method that tells with @Holds which sentence it holds. */
final class Sentences {
    static final int NONE = -1, BAD = -2, NO = -3, FULL = -4;
    static final int LOW = Integer.MIN_VALUE, HIGH = Integer.MAX_VALUE;

    /** The sentence of the document, with its place. */
    @Retention(RetentionPolicy.RUNTIME)
    @Target(ElementType.METHOD)
    @interface Holds {
        String value();
    }

    interface Call {
        long of(IronStairs x);
    }

    interface CallOf {
        long of(IronStairs x, int n);
    }

    interface Making {
        IronStairs made();
    }

    private static String sentence = "";
    private static int wrong = 0;

    private Sentences() {
    }

    /** Runs all tests of the class, or those that are named, and ends the program with 1 if an answer was wrong. */
    static void run(Class<?> tests, String[] names) {
        Map<String, Method> all = testsOf(tests);
        int ran = 0;
        int wrongInAll = 0;
        for (String name : names.length == 0 ? all.keySet().toArray(new String[0]) : names) {
            ran++;
            wrongInAll += wrongIn(tests, name);
        }
        boolean fine = wrongInAll == 0 && ran > 0;
        System.out.println(fine ? tests.getName() + ": " + ran + " sentences hold" : wrongInAll + " answers are not as due");
        if (!fine) System.exit(1);
    }

    static Map<String, Method> testsOf(Class<?> tests) {
        Map<String, Method> all = new TreeMap<>();
        for (Method m : tests.getDeclaredMethods()) {
            if (m.isAnnotationPresent(Holds.class)) all.put(m.getName(), m);
        }
        return all;
    }

    /** How many answers were wrong in one test. */
    static int wrongIn(Class<?> tests, String name) {
        wrong = 0;
        Method test = testsOf(tests).get(name);
        sentence = test == null ? "" : test.getAnnotation(Holds.class).value();
        try {
            if (test == null) throw new IllegalArgumentException("there is no test " + name);
            test.setAccessible(true);
            test.invoke(null);
        } catch (InvocationTargetException e) {
            tell(name + " threw " + e.getCause());
        } catch (IllegalAccessException | IllegalArgumentException e) {
            tell(name + " could not run: " + e);
        }
        return wrong;
    }

    private static void tell(String what) {
        wrong++;
        System.out.println("[" + sentence + "] " + what);
    }

    static void due(String call, long got, long want) {
        if (got != want) tell(call + " answered " + got + ", due is " + want);
    }

    /** What STATUS tells. */
    static void refusals(String when, IronStairs x, int bad, int no, int full) {
        due(when + ": status(0)", x.status(0), bad);
        due(when + ": status(1)", x.status(1), no);
        due(when + ": status(2)", x.status(2), full);
    }

    /** What count tells, from 0 on. */
    static void counts(String when, IronStairs x, int... want) {
        for (int what = 0; what < want.length; what++) due(when + ": count(" + what + ")", x.count(what), want[what]);
    }

    static void fraction(String when, IronStairs x, long above, long below) {
        due(when + ": part(0)", x.part(0), above);
        due(when + ": part(1)", x.part(1), below);
    }

    static void type(IronStairs x, String text) {
        x.clear();
        for (int i = 0; i < text.length(); i++) x.type(text.charAt(i));
    }

    /** A new object that has read a text, which it keeps. */
    static IronStairs told(String text) {
        IronStairs x = new IronStairs();
        type(x, text);
        int items = x.read();
        if (items < 1) tell("read of '" + text + "' answered " + items);
        return x;
    }

    /** A new object with goers: KIND, HOME, WANT of each. */
    static IronStairs goers(int... kindHomeWant) {
        IronStairs x = new IronStairs();
        for (int i = 0; i + 2 < kindHomeWant.length; i += 3) x.goer(kindHomeWant[i], kindHomeWant[i + 1], kindHomeWant[i + 2]);
        return x;
    }

    /** As many LADDERS, GOERS and WINDOWS as there may be; nothing else. */
    static IronStairs full() {
        IronStairs x = goers(0, 0, 3, 1, 3, 0, 2, 4, 8, 3, 7, 6, 4, 16, 17, 5, 10, 11);
        for (int c : new int[] {0, 3, 5, 8, 11, 15}) x.ladder(c);
        for (int w = 0; w < 4; w++) x.window(w, 5 * w);
        return x;
    }

    /**
     * The least and the greatest number are taken and answered as told; one beyond each, and the farthest off, are
     * answered with the refusal and count as BAD. Each call is of an object made for it.
     */
    static void takes(Making making, int least, long atLeast, int greatest, long atGreatest, long refusal, CallOf call) {
        takesOne(making, least, atLeast, call);
        takesOne(making, greatest, atGreatest, call);
        int[] beyond = {least - 1, LOW, greatest + 1, HIGH};
        for (int k = 0; k < 4; k++) {
            if (k >= 2 && greatest == HIGH) continue;
            IronStairs x = making.made();
            due("of " + beyond[k], call.of(x, beyond[k]), refusal);
            refusals("of " + beyond[k], x, 1, 0, 0);
        }
    }

    private static void takesOne(Making making, int n, long answer, CallOf call) {
        IronStairs x = making.made();
        due("of " + n, call.of(x, n), answer);
        refusals("of " + n, x, 0, 0, 0);
    }

    /** Of those who are there, 0 and the last one (or none) are taken, others are not. */
    static void takesThose(Making making, int last, long refusal, CallOf call) {
        int[] numbers = {-1, LOW, last + 1, HIGH, 0, last};
        for (int k = 0; k < numbers.length; k++) {
            boolean there = numbers[k] >= 0 && numbers[k] <= last;
            if (k >= 4 && !there) continue;
            IronStairs x = making.made();
            long answer = call.of(x, numbers[k]);
            if (!there) due("of " + numbers[k], answer, refusal);
            refusals("of " + numbers[k], x, there ? 0 : 1, 0, 0);
        }
    }
}
