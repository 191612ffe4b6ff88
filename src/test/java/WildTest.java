import java.lang.reflect.InvocationTargetException;
import java.lang.reflect.Method;
import java.lang.reflect.Modifier;
import java.util.Arrays;
import java.util.Comparator;

/** Every method with every mix of numbers in and out of bounds: none throws, and like calls are answered alike. */
public final class WildTest {
    private static final Check CHECK = new Check();
    private static final int CALLS = 250;
    private static final int[] NUMBERS = {Integer.MIN_VALUE, -100, -10, -5, -1, 0, 1, 2, 3, 4, 5, 6, 7, 9, 10, 12, 20, 26, 27,
        99, 127, 128, 999, 1000, 9999, Integer.MAX_VALUE};

    private WildTest() {
    }

    public static void main(String[] args) throws IllegalAccessException {
        Method[] methods = FortyGates.class.getDeclaredMethods();
        Arrays.sort(methods, Comparator.comparing(Method::getName));
        for (Method method : methods) {
            if (Modifier.isPublic(method.getModifiers())) {
                for (int scene = Scene.EMPTY; scene <= Scene.FULL; scene++) {
                    mixes(method, scene);
                }
            }
        }
        CHECK.end();
    }

    private static void mixes(Method method, int scene) throws IllegalAccessException {
        int size = method.getParameterCount();
        int mixes = 1;
        for (int i = 0; i < size; i++) {
            mixes *= NUMBERS.length;
        }
        // of four numbers each 7th mix is enough, as 7 divides no power of their count
        int step = size == 4 ? 7 : 1;
        FortyGates one = Scene.make(scene);
        FortyGates other = Scene.make(scene);
        int calls = 0;
        for (int mix = 0; mix < mixes; mix += step) {
            Object[] numbers = new Object[size];
            int rest = mix;
            for (int i = 0; i < size; i++) {
                numbers[i] = NUMBERS[rest % NUMBERS.length];
                rest /= NUMBERS.length;
            }
            CHECK.due(method.getName() + Arrays.toString(numbers), answer(method, one, numbers), answer(method, other, numbers));
            if (++calls == CALLS) {
                one = Scene.make(scene);
                other = Scene.make(scene);
                calls = 0;
            }
        }
    }

    private static long answer(Method method, FortyGates x, Object[] numbers) throws IllegalAccessException {
        try {
            return ((Number) method.invoke(x, numbers)).longValue();
        } catch (InvocationTargetException e) {
            CHECK.so(method.getName() + Arrays.toString(numbers) + " throws " + e.getCause(), false);
            return 0;
        }
    }
}
