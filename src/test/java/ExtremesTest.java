import java.lang.reflect.InvocationTargetException;
import java.lang.reflect.Method;
import java.lang.reflect.Modifier;
import java.util.ArrayList;
import java.util.Comparator;
import java.util.List;
import java.util.Random;

/**
 * Each method with numbers from everywhere, in objects that hold much: what it throws is of a class that it declares
 * itself, and not of one below it, as the Java machine would throw.
 */
public final class ExtremesTest {

    private static final int OBJECTS = 300;
    private static final int CALLS = 460;
    private static final int[] NUMBERS = {
        Integer.MIN_VALUE, Integer.MIN_VALUE + 1, -16832720, -2001, -2000, -1441, -1440, -721, -720, -100, -1, 0, 1,
        2, 3, 4, 5, 6, 7, 8, 9, 10, 12, 13, 24, 25, 31, 32, 39, 40, 41, 60, 61, 99, 100, 119, 120, 127, 128, 260,
        506, 602, 840, 841, 1010, 1316, 1317, 1439, 1440, 1441, 3131, 3132, 11686, 11687, 11688, 14392, 14393,
        1440 * 84, 1440 * 85 + 120, 1440 * 302 + 120, 16830719, 16830720, 16832719, 16832720, 0x21217e7e,
        Integer.MAX_VALUE - 1, Integer.MAX_VALUE};

    private ExtremesTest() {
    }

    public static void main(String[] args) throws IllegalAccessException {
        List<Method> methods = new ArrayList<>();
        for (Method method : ZoneCompiler.class.getDeclaredMethods()) {
            if (Modifier.isPublic(method.getModifiers())) {
                methods.add(method);
            }
        }
        methods.sort(Comparator.comparing(Method::getName));
        Random random = new Random(20261120);
        for (int i = 0; i < OBJECTS; i++) {
            ZoneCompiler x = i % 3 == 0 ? Given.europe() : i % 3 == 1 ? Given.full() : Given.meeting(11660, 40);
            for (int call = 0; call < CALLS; call++) {
                call(x, methods.get(random.nextInt(methods.size())), random);
            }
        }
        Due.same("the methods", methods.size(), 41);
        Due.end();
    }

    private static void call(ZoneCompiler x, Method method, Random random) throws IllegalAccessException {
        Object[] numbers = new Object[method.getParameterCount()];
        StringBuilder text = new StringBuilder(method.getName());
        for (int i = 0; i < numbers.length; i++) {
            numbers[i] = random.nextInt(3) == 0 ? random.nextInt(12) : NUMBERS[random.nextInt(NUMBERS.length)];
            text.append(' ').append(numbers[i]);
        }
        try {
            method.invoke(x, numbers);
        } catch (InvocationTargetException thrown) {
            Due.sentence("Throws", "what the method lists");
            Class<?> got = thrown.getCause().getClass();
            if (!List.of(method.getExceptionTypes()).contains(got)) {
                Due.fault(text + " threw " + got);
            }
        }
    }
}
