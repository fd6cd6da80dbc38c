import java.lang.reflect.Method;
import java.lang.reflect.Modifier;
import java.util.ArrayList;
import java.util.Comparator;
import java.util.List;
import java.util.Random;

/** Every method with any numbers in many states: none throws, and what is refused changes nothing but STATUS. */
public final class WildTest {
    private static final int[] ODD = {Integer.MIN_VALUE, Integer.MIN_VALUE + 1, -65536, -100, -10, -5, -4, -3, -2, -1, 0, 1, 2,
        3, 4, 5, 6, 7, 8, 9, 10, 15, 16, 19, 20, 21, 30, 31, 32, 60, 61, 99, 100, 127, 128, 255, 256, 9999, 999999, 1000000,
        65536, 1 << 20, 1 << 30, Integer.MAX_VALUE - 1, Integer.MAX_VALUE};

    private static final int RUNS = 1500;
    /** Each goes with eight calls that look at it, and nothing is promised of an object behind its 512th call. */
    private static final int WILD_CALLS = 54;

    public static void main(String[] args) throws Exception {
        Random random = new Random(1601);
        int wrong = 0;
        List<Method> methods = new ArrayList<>();
        for (Method m : IronStairs.class.getMethods()) {
            if (m.getDeclaringClass() == IronStairs.class && !Modifier.isStatic(m.getModifiers())) methods.add(m);
        }
        // reflection tells them in no order
        methods.sort(Comparator.comparing(Method::getName));
        for (int run = 0; run < RUNS; run++) {
            IronStairs x = new IronStairs();
            for (int n = 0; n < 20; n++) settle(x, random);
            for (int n = 0; n < WILD_CALLS; n++) wrong += tell(x, methods.get(random.nextInt(methods.size())), random);
        }
        System.out.println(wrong == 0 ? "nothing was thrown" : wrong + " calls went wrong");
        if (wrong != 0) System.exit(1);
    }

    private static void settle(IronStairs x, Random random) {
        switch (random.nextInt(6)) {
            case 0: x.ladder(random.nextInt(16)); break;
            case 1: case 2: x.goer(random.nextInt(6), random.nextInt(20), random.nextInt(20)); break;
            case 3: x.window(random.nextInt(6), random.nextInt(20)); break;
            case 4: x.minutes(1 + random.nextInt(3)); break;
            default: x.turns(0); break;
        }
    }

    private static int tell(IronStairs x, Method m, Random random) throws Exception {
        Object[] a = new Object[m.getParameterCount()];
        StringBuilder call = new StringBuilder(m.getName());
        for (int k = 0; k < a.length; k++) {
            a[k] = random.nextInt(8) == 0 ? random.nextInt() : random.nextInt(2) == 0 ? random.nextInt(6) : ODD[random.nextInt(ODD.length)];
            call.append(' ').append(a[k]);
        }
        long before = x.digest();
        int refused = refusals(x);
        long answer;
        try {
            answer = ((Number) m.invoke(x, a)).longValue();
        } catch (java.lang.reflect.InvocationTargetException e) {
            System.out.println(call + " threw " + e.getCause());
            return 1;
        }
        boolean more = refusals(x) > refused;
        if (more && x.digest() != before) {
            System.out.println(call + " was refused with " + answer + ", but it changed what is there");
            return 1;
        }
        return 0;
    }

    private static int refusals(IronStairs x) {
        return x.status(0) + x.status(1) + x.status(2);
    }
}
