import java.lang.reflect.Field;
import java.lang.reflect.InvocationTargetException;
import java.lang.reflect.Method;
import java.lang.reflect.Modifier;
import java.util.ArrayList;
import java.util.Comparator;
import java.util.List;
import java.util.Random;

/** Rule 7 of LANGUAGE.md: no call throws, for any arguments in any state, behind the 512th call and where TIME goes round too. */
public final class NeverThrowsTest {
    private static final int RUNS = 120;
    private static final int CALLS = 1500;
    /** TIME at the beginning of a run: so few ticks ahead of going round that every run comes there. */
    private static final int[] TIMES = {0, Integer.MAX_VALUE, Integer.MAX_VALUE - 6, Integer.MAX_VALUE - 200, -1, Integer.MIN_VALUE};
    private static final int[] SMALL = {0, 0, 0, 1, 1, 2, 3, 4, 7, 8, 15, 16, 17, 18, 300};

    private NeverThrowsTest() {
    }

    public static void main(String[] args) throws ReflectiveOperationException {
        List<Method> calls = new ArrayList<>(List.of(ZonedFabric.class.getDeclaredMethods()));
        calls.removeIf(call -> !Modifier.isPublic(call.getModifiers()));
        calls.sort(Comparator.comparing(Method::getName));
        int thrown = 0;
        for (int run = 0; run < RUNS; run++) {
            thrown += run(new Random(run), calls, TIMES[run % TIMES.length]);
        }
        System.out.println(RUNS * CALLS + " calls, " + thrown + " runs with a throw");
        if (thrown > 0 || calls.size() != 22) {
            System.exit(1);
        }
    }

    private static int run(Random random, List<Method> calls, int time) throws ReflectiveOperationException {
        ZonedFabric x = new ZonedFabric(number(random), number(random), number(random));
        for (int wild : Scene.WILD) {
            new ZonedFabric(wild, wild, wild);
        }
        setTime(x, time);
        for (int i = 0; i < 6; i++) {
            x.disc(1);
            x.wire(i % 2, random.nextInt(8), 16 + random.nextInt(3), 0, 1);
            x.wire(0, random.nextInt(8), 1, random.nextInt(8), 1 + i);
        }
        for (int i = 0; i < CALLS; i++) {
            Method call = calls.get(random.nextInt(calls.size()));
            Object[] arguments = new Object[call.getParameterCount()];
            for (int k = 0; k < arguments.length; k++) {
                arguments[k] = argument(random, call.getParameterTypes()[k]);
            }
            try {
                call.invoke(x, arguments);
                x.tick(random.nextInt(3));
            } catch (InvocationTargetException fault) {
                System.out.println(call.getName() + List.of(arguments) + " from TIME " + time + " on threw " + fault.getCause());
                return 1;
            } catch (RuntimeException fault) {
                System.out.println("tick from TIME " + time + " on threw " + fault);
                return 1;
            }
        }
        return 0;
    }

    private static Object argument(Random random, Class<?> type) {
        if (type == boolean.class) {
            return random.nextBoolean();
        }
        return type == long.class ? (Object) random.nextLong() : (Object) number(random);
    }

    private static int number(Random random) {
        return random.nextInt(10) == 0 ? Scene.WILD[random.nextInt(Scene.WILD.length)] : SMALL[random.nextInt(SMALL.length)];
    }

    /** No run of calls that a test has time for comes there by itself. */
    private static void setTime(ZonedFabric x, int time) throws ReflectiveOperationException {
        Field shared = ZonedFabric.class.getDeclaredField("shared");
        shared.setAccessible(true);
        Object one = shared.get(x);
        Field field = one.getClass().getDeclaredField("time");
        field.setAccessible(true);
        field.setInt(one, time);
    }
}
