import java.lang.reflect.InvocationTargetException;
import java.lang.reflect.Method;
import java.util.Comparator;
import java.util.Arrays;

/** No call throws, whatever the numbers are: all methods, with all mixes of odd numbers, in three states. */
public final class ExtremesTest {
    private static final long[] NUMBERS = {Long.MIN_VALUE, Integer.MIN_VALUE, -1, 0, 1, 8, 64, Integer.MAX_VALUE, Long.MAX_VALUE};

    public static void main(String[] args) throws IllegalAccessException {
        Method[] methods = SumSmith.class.getMethods();
        Arrays.sort(methods, Comparator.comparing(Method::getName));
        for (Method method : methods) {
            if (method.getDeclaringClass() == SumSmith.class) {
                callAll(method, new SumSmith());
                callAll(method, small());
                callAll(method, full());
            }
        }
        Due.end();
    }

    private static SumSmith small() {
        SumSmith x = new SumSmith();
        x.twofold(255);
        x.divided(3, 3, 0, 0, false, true);
        x.put(1);
        x.free(0);
        x.tell(1);
        return x;
    }

    private static SumSmith full() {
        SumSmith x = new SumSmith();
        x.divided(32, 0x04C11DB7L, 1, 1, true, true);
        x.divided(32, 0xFFFFFFFFL, 1, 1, false, true);
        for (int k = 2; k < 16; k++) {
            x.turning(32, 31);
        }
        for (int i = 0; i < 64; i++) {
            x.put(255);
        }
        for (int place = 496; place < 512; place++) {
            x.free(place);
        }
        for (int i = 0; i < 100; i++) {
            x.tell(65535);
        }
        return x;
    }

    private static void callAll(Method method, SumSmith x) throws IllegalAccessException {
        Class<?>[] types = method.getParameterTypes();
        int mixes = 1;
        for (int i = 0; i < types.length; i++) {
            mixes = Math.min(mixes * NUMBERS.length, 20000);
        }
        for (int mix = 0; mix < mixes; mix++) {
            call(method, x, argumentsOf(types, mix));
        }
    }

    private static Object[] argumentsOf(Class<?>[] types, int mix) {
        Object[] arguments = new Object[types.length];
        int rest = mix;
        for (int i = 0; i < types.length; i++) {
            long number = NUMBERS[rest % NUMBERS.length];
            rest /= NUMBERS.length;
            if (types[i] == int.class) {
                arguments[i] = (int) number;
            } else if (types[i] == long.class) {
                arguments[i] = number;
            } else {
                arguments[i] = number > 0;
            }
        }
        return arguments;
    }

    private static void call(Method method, SumSmith x, Object[] arguments) throws IllegalAccessException {
        int thrown = 0;
        try {
            method.invoke(x, arguments);
        } catch (InvocationTargetException e) {
            thrown = 1;
        }
        Due.due("exceptions of " + method.getName() + Arrays.toString(arguments), thrown, 0);
    }
}
