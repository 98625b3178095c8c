import java.lang.reflect.InvocationTargetException;
import java.lang.reflect.Method;
import java.util.Arrays;
import java.util.Comparator;
import java.util.Random;

/** No call throws, for any arguments in any state: near the edges and worlds outside, in long runs. */
public final class NothingThrownTest {
    private static final int CALLS = 512;
    private static final int[] FAR = {Integer.MIN_VALUE, Integer.MIN_VALUE + 1, -1000, -3, -2, -1, 24, 25, 40, 41, 60, 61, 126,
        127, 1000, 65536, Integer.MAX_VALUE - 24, Integer.MAX_VALUE - 1, Integer.MAX_VALUE};

    public static void main(String[] args) throws IllegalAccessException {
        Method[] face = Arrays.stream(BathRim.class.getDeclaredMethods())
            .filter(method -> java.lang.reflect.Modifier.isPublic(method.getModifiers()))
            .sorted(Comparator.comparing(Method::getName)).toArray(Method[]::new);
        for (int run = 0; run < 400; run++) {
            play(face, new Random(run), run % 4 == 0 ? 2 : 8);
        }
        System.out.println("nothing is thrown");
    }

    /** One argument of so many is far off, so that calls go deep, too. */
    private static void play(Method[] face, Random random, int tameness) throws IllegalAccessException {
        BathRim x = new BathRim();
        for (int call = 0; call < CALLS; call++) {
            Method method = face[random.nextInt(face.length)];
            Object[] values = new Object[method.getParameterCount()];
            for (int k = 0; k < values.length; k++) {
                int value = random.nextInt(tameness) == 0 ? FAR[random.nextInt(FAR.length)] : random.nextInt(12);
                values[k] = method.getParameterTypes()[k] == long.class ? (Object) ((long) value << random.nextInt(40)) : value;
            }
            if (method.getName().equals("type") && random.nextInt(4) != 0) {
                values[0] = (int) "0123456789+^;,@plgdv ".charAt(random.nextInt(21));
            }
            try {
                method.invoke(x, values);
            } catch (InvocationTargetException e) {
                System.out.println(method.getName() + Arrays.toString(values) + " threw " + e.getCause());
                System.exit(1);
            }
        }
    }
}
