import java.lang.reflect.Method;
import java.lang.reflect.Modifier;
import java.util.ArrayList;
import java.util.Arrays;
import java.util.Comparator;
import java.util.List;
import java.util.Random;

/** No call ever throws, for any numbers in any state, on a new object, on a full one, long after the 512th call. */
public final class NeverThrowsTest {
    private static final int[] ODD = {Integer.MIN_VALUE, Integer.MIN_VALUE + 1, -1000001, -100001, -100000, -10001, -10000,
        -501, -500, -100, -33, -32, -11, -10, -6, -5, -4, -3, -2, -1, 0, 1, 2, 3, 4, 5, 6, 7, 8, 9, 10, 12, 15, 16, 17, 23, 24,
        25, 31, 32, 33, 39, 40, 41, 45, 50, 51, 59, 60, 61, 63, 64, 99, 100, 101, 127, 128, 200, 255, 256, 500, 501, 512, 1000,
        1001, 2999, 3000, 3001, 10000, 10001, 32768, 65536, 100000, 100001, 1000000, 1 << 30, Integer.MAX_VALUE - 1,
        Integer.MAX_VALUE};

    private static final List<Method> METHODS = new ArrayList<>();

    public static void main(String[] args) {
        for (Method m : OldWorks.class.getDeclaredMethods()) {
            if (Modifier.isPublic(m.getModifiers())) METHODS.add(m);
        }
        METHODS.sort(Comparator.comparing(Method::getName));
        Due.is("methods", METHODS.size(), 37);
        everyNumber();
        anyState();
        Due.end("NeverThrowsTest");
    }

    private static void call(OldWorks x, Method m, Object... arguments) {
        try {
            Due.holds(m.getName() + " answers", m.invoke(x, arguments) != null);
        } catch (ReflectiveOperationException e) {
            Due.holds(m.getName() + Arrays.toString(arguments) + " threw " + e.getCause(), false);
        }
    }

    private static OldWorks full() {
        OldWorks x = new OldWorks();
        for (int i = 0; i < 61; i++) {
            x.part(100 - i, 1 + i, i, i % 5 - 1);
            x.write("y-(l*!h/(3<4&5|6=7>8))-524288*524288*524288*64/-1+h*l-999999".charAt(i % 60));
            x.say(i % 24, i % 4, 100 * i, i, i);
            x.chain(-100 * i, 1000 * i);
            for (int part = 0; part < 7; part++) x.link(i, part + i, part % 2 == 0);
            x.work(i % 2 == 0 ? 100 + i : -100 - i, 1 + i, 1, 3000);
            x.machine(i % 2);
            x.spare(i % 2, 1 + i % 50, i % 5 - 1);
            x.told(i, i % 3 == 0);
            x.hand(15 >> i % 4, 9 - i % 3);
            x.need(i % 4, 9);
            x.bear(i % 24, (i + 7) % 24, true);
        }
        x.odds(9, 9);
        x.lasts(0, 60);
        x.image(0);
        return x;
    }

    /** Each odd number in each place, the others small, on a new object and on a full one. */
    private static void everyNumber() {
        OldWorks[] states = {new OldWorks(), full()};
        for (OldWorks x : states) {
            for (Method m : METHODS) {
                Class<?>[] types = m.getParameterTypes();
                for (int i = 0; i < types.length; i++) {
                    for (int odd : ODD) {
                        for (int other = -1; other < 3; other++) {
                            Object[] arguments = new Object[types.length];
                            for (int k = 0; k < types.length; k++) {
                                if (types[k] == boolean.class) arguments[k] = other != 0;
                                else arguments[k] = k == i ? odd : other;
                            }
                            call(x, m, arguments);
                        }
                    }
                }
                if (types.length == 0) call(x, m);
            }
        }
    }

    private static void anyState() {
        Random random = new Random(5);
        for (int run = 0; run < 20; run++) {
            OldWorks x = run % 2 == 0 ? new OldWorks() : full();
            for (int i = 0; i < 1500; i++) {
                Method m = METHODS.get(random.nextInt(METHODS.size()));
                Object[] arguments = new Object[m.getParameterCount()];
                for (int k = 0; k < arguments.length; k++) {
                    if (m.getParameterTypes()[k] == boolean.class) arguments[k] = random.nextBoolean();
                    else arguments[k] = random.nextInt(3) == 0 ? ODD[random.nextInt(ODD.length)] : random.nextInt(10);
                }
                call(x, m, arguments);
            }
        }
    }
}
