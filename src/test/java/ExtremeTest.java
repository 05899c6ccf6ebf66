import java.lang.reflect.InvocationTargetException;
import java.lang.reflect.Method;
import java.lang.reflect.Modifier;
import java.util.Arrays;
import java.util.Comparator;
import java.util.NoSuchElementException;
import java.util.Random;

/** No call throws but core, whatever the arguments are and whatever was called ahead of it. */
public final class ExtremeTest {
    private static final int OBJECTS = 400;
    private static final int CALLS = 480;
    private static final int[] NUMBERS = {Integer.MIN_VALUE, Integer.MIN_VALUE + 1, -1000000, -21, -10, -2, -1, 0, 0, 1, 1,
        2, 3, 4, 7, 8, 9, 10, 12, 20, 39, 40, 41, 60, 61, 99, 100, 120, 300, 301, 1 << 30, Integer.MAX_VALUE - 1,
        Integer.MAX_VALUE};
    private static final String[] CRYSTALS = {"", "size 2 2", "size 2 2;core 0 0 -2 2",
        "size 9 2;core 7 0 1 0;stress 20 20", "size 2 9;core 0 7 0 1;hold 0;stress -20 -20",
        "size 9 9;core 0 0 1 0;core 7 7 -1 0;core 7 0 0 1;core 0 7 0 -1;hold 0",
        "size 9 9;core 0 0 1 1;core 2 0 -1 -1;core 4 0 1 1;core 6 0 -1 -1;core 0 2 1 1;core 2 2 -1 -1;core 4 2 1 1"
            + ";core 6 2 -1 -1;core 0 4 1 1;core 2 4 -1 -1;hold 0;rule 2"};

    private ExtremeTest() {
    }

    public static void main(String[] args) {
        Random random = new Random(5);
        Method[] face = Arrays.stream(SlipLattice.class.getDeclaredMethods())
                .filter(m -> Modifier.isPublic(m.getModifiers()))
                .sorted(Comparator.comparing(Method::getName)).toArray(Method[]::new);
        for (int i = 0; i < OBJECTS; i++) {
            String crystal = CRYSTALS[i % CRYSTALS.length];
            SlipLattice x = crystal.isEmpty() ? new SlipLattice() : Check.of(crystal);
            for (int call = 0; call < CALLS; call++) {
                call(x, face[random.nextInt(face.length)], random);
            }
        }
        Check.finish("ExtremeTest");
    }

    private static void call(SlipLattice x, Method method, Random random) {
        Class<?>[] types = method.getParameterTypes();
        Object[] arguments = new Object[types.length];
        for (int i = 0; i < types.length; i++) {
            int number = random.nextInt(3) == 0 ? random.nextInt(4) : NUMBERS[random.nextInt(NUMBERS.length)];
            arguments[i] = types[i] == boolean.class ? (Object) random.nextBoolean()
                    : types[i] == long.class ? (Object) (random.nextLong() + number) : (Object) number;
        }
        boolean good = true;
        try {
            method.invoke(x, arguments);
        } catch (InvocationTargetException e) {
            good = method.getName().equals("core") && e.getCause().getClass() == NoSuchElementException.class;
        } catch (IllegalAccessException e) {
            good = false;
        }
        Check.due(method.getName() + Arrays.toString(arguments) + " throws nothing of its own", good, true);
    }
}
