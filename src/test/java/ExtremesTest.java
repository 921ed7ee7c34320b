import java.lang.reflect.InvocationTargetException;
import java.lang.reflect.Method;
import java.lang.reflect.Modifier;
import java.util.ArrayList;
import java.util.List;
import java.util.NoSuchElementException;
import java.util.Random;
import java.util.function.Supplier;

/** Every call with any numbers in many states: nothing is thrown but by about, and the year goes on behind it. */
public final class ExtremesTest {
    private static final int[] NUMBERS = {Integer.MIN_VALUE, Integer.MIN_VALUE + 1, -1000001, -64, -8, -2, -1, 0, 0, 0, 1, 1, 2, 3, 5, 6,
        7, 8, 12, 13, 14, 15, 30, 50, 51, 52, 59, 60, 61, 63, 64, 99, 100, 200, 400, 500, 600, 960, 1000, 1440, 1441, 2000, 10000,
        Integer.MAX_VALUE - 1, Integer.MAX_VALUE};
    private static final long[] SEEDS = {0, 1, -1, Long.MIN_VALUE, Long.MAX_VALUE, 1L << 33};
    private static final Random RANDOM = new Random(44);
    private static int wrong;

    public static void main(String[] args) throws IllegalAccessException {
        List<Supplier<CottageYear>> states = states();
        int calls = 0;
        for (Method method : CottageYear.class.getDeclaredMethods()) {
            if (!Modifier.isPublic(method.getModifiers())) {
                continue;
            }
            int tries = method.getParameterCount() == 0 ? 1 : 40 * method.getParameterCount();
            for (Supplier<CottageYear> state : states) {
                for (int i = 0; i < tries; i++) {
                    CottageYear year = state.get();
                    call(year, method);
                    goOn(year, method);
                    calls++;
                }
            }
        }
        System.out.println("extremes: " + calls + " calls, " + wrong + " threw what they must not");
        if (wrong != 0) {
            System.exit(1);
        }
    }

    private static List<Supplier<CottageYear>> states() {
        List<Supplier<CottageYear>> states = new ArrayList<>();
        states.add(CottageYear::new);
        states.add(Years::rich);
        states.add(Years::richDay);
        states.add(Years::richEvening);
        states.add(Years::richOver);
        states.add(() -> Years.alike(7));
        states.add(Years::full);
        return states;
    }

    private static Object[] anyArguments(Method method) {
        Class<?>[] types = method.getParameterTypes();
        Object[] arguments = new Object[types.length];
        for (int i = 0; i < types.length; i++) {
            if (types[i] == boolean.class) {
                arguments[i] = RANDOM.nextBoolean();
            } else if (types[i] == long.class) {
                arguments[i] = SEEDS[RANDOM.nextInt(SEEDS.length)];
            } else {
                arguments[i] = NUMBERS[RANDOM.nextInt(NUMBERS.length)];
            }
        }
        return arguments;
    }

    private static void call(CottageYear year, Method method) throws IllegalAccessException {
        Object[] arguments = anyArguments(method);
        try {
            method.invoke(year, arguments);
        } catch (InvocationTargetException thrown) {
            boolean due = method.getName().equals("about") && thrown.getCause() instanceof NoSuchElementException;
            if (!due) {
                tell(method, arguments, thrown.getCause());
            }
        }
    }

    /** Whatever was told, a DAY can be planned and passed behind it. */
    private static void goOn(CottageYear year, Method method) {
        try {
            year.plan();
            year.tick(500);
            year.closeDay();
            year.openDay();
            year.plan();
            year.best(0);
            year.tick(500);
            year.tick(500);
            year.draw(1, 1);
            year.closeDay();
            year.fewest();
        } catch (RuntimeException thrown) {
            tell(method, new Object[0], thrown);
        }
    }

    private static void tell(Method method, Object[] arguments, Throwable thrown) {
        wrong++;
        if (wrong < 10) {
            System.out.println("extremes: " + method.getName() + java.util.Arrays.toString(arguments) + " threw " + thrown);
        }
    }
}
