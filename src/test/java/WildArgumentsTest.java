import java.lang.reflect.InvocationTargetException;
import java.lang.reflect.Method;
import java.lang.reflect.Modifier;
import java.util.Arrays;
import java.util.Comparator;
import java.util.Random;

/** Whatever is asked, in whatever state: nothing is thrown, and each answer lies where answers can lie. */
public final class WildArgumentsTest {
    private static final int[] WILD = {Integer.MIN_VALUE, Integer.MIN_VALUE + 1, -1000000, -361, -10, -9, -8, -2, -1, 0,
        1, 2, 3, 4, 5, 6, 7, 8, 9, 10, 11, 35, 36, 48, 60, 61, 90, 180, 181, 359, 360, 363, 364, 599, 600, 601, 1 << 30,
        Integer.MAX_VALUE - 1, Integer.MAX_VALUE};

    private static final String FULL_BOOK = "000+40;001-40;100+00;150+40;200-01;300+02;599-40";

    private static final Due due = new Due();

    private static Method[] face() {
        Method[] face = Arrays.stream(EastNearly.class.getDeclaredMethods())
                .filter(m -> Modifier.isPublic(m.getModifiers())).toArray(Method[]::new);
        Arrays.sort(face, Comparator.comparing(Method::getName));
        return face;
    }

    private static Object wild(Class<?> type, Random random) {
        if (type == boolean.class) return random.nextBoolean();
        int v = random.nextInt(4) == 0 ? random.nextInt() : WILD[random.nextInt(WILD.length)];
        if (type == long.class) return random.nextBoolean() ? random.nextLong() : (Object) (long) v;
        return random.nextInt(3) == 0 ? random.nextInt(12) : v;
    }

    private static void call(EastNearly e, Method method, Object[] arguments) {
        String call = method.getName() + Arrays.toString(arguments);
        try {
            long answer = ((Number) method.invoke(e, arguments)).longValue();
            due.holds(call + " answered " + answer, answer == -9 || answer >= -4 && answer <= 3628800
                    || method.getName().equals("goes") && Math.abs(answer) <= 45);
        } catch (InvocationTargetException thrown) {
            due.holds(call + " threw " + thrown.getCause(), false);
        } catch (IllegalAccessException impossible) {
            throw new IllegalStateException(impossible);
        }
    }

    private static EastNearly fullOne() {
        EastNearly e = new EastNearly();
        for (int i = 0; i < FULL_BOOK.length(); i++) e.write(1, FULL_BOOK.charAt(i));
        due.is("book", e.book(), 7);
        for (int i = 0; i < 10; i++) {
            e.church(i % 4, 85 + i, i, 50 * i, 50 * i + 60);
            e.tell(i, 0, 363 - i);
            e.choir(i, 80 + i, 539, 599);
        }
        return e;
    }

    public static void main(String[] args) {
        Random random = new Random(1);
        Method[] face = face();
        due.is("methods of the face", face.length, 42);
        for (int run = 0; run < 200; run++) {
            EastNearly e = run % 2 == 0 ? new EastNearly() : fullOne();
            for (int call = 0; call < 450; call++) {
                Method method = face[random.nextInt(face.length)];
                Object[] arguments = new Object[method.getParameterCount()];
                for (int i = 0; i < arguments.length; i++) arguments[i] = wild(method.getParameterTypes()[i], random);
                call(e, method, arguments);
            }
        }
        due.end("WildArgumentsTest");
    }
}
