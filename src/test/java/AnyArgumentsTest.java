import java.lang.reflect.InvocationTargetException;
import java.lang.reflect.Method;
import java.lang.reflect.Modifier;
import java.util.ArrayList;
import java.util.Comparator;
import java.util.List;
import java.util.Random;

/** No call may throw, for any arguments in any state. */
public final class AnyArgumentsTest {
    private static final int[] EDGES = {
        Integer.MIN_VALUE, Integer.MIN_VALUE + 1, -1000000, -101, -100, -51, -50, -10, -9, -4, -3, -2, -1, 0,
        1, 2, 3, 4, 8, 9, 10, 11, 16, 17, 20, 50, 99, 100, 120, 121, 129, 1100, 1109, 1110, 1200, 1209,
        999999, 1000000, Integer.MAX_VALUE - 1, Integer.MAX_VALUE
    };
    private static final String BYTES = "......ABCabcr/";

    public static void main(String[] args) throws IllegalAccessException {
        List<Method> calls = new ArrayList<>();
        for (Method method : HalfSea.class.getDeclaredMethods()) {
            if (Modifier.isPublic(method.getModifiers())) {
                calls.add(method);
            }
        }
        // reflection tells them in no settled order, but the runs must be the same each time
        calls.sort(Comparator.comparing(Method::getName));
        for (int run = 0; run < 200; run++) {
            play(new Random(run), calls);
        }
        Check.end();
    }

    private static void play(Random dice, List<Method> calls) throws IllegalAccessException {
        HalfSea sea = new HalfSea();
        if (dice.nextInt(4) != 0) {
            Check.readInto(sea, someText(dice));
        }
        for (int k = 0; k < 450; k++) {
            Method method = calls.get(dice.nextInt(calls.size()));
            Object[] given = new Object[method.getParameterCount()];
            for (int p = 0; p < given.length; p++) {
                boolean isLong = method.getParameterTypes()[p] == long.class;
                given[p] = isLong ? (Object) someBytes(dice) : (Object) someInt(dice);
            }
            Check.holds(method.getName() + java.util.Arrays.toString(given) + " does not throw",
                    ends(sea, method, given));
        }
    }

    private static boolean ends(HalfSea sea, Method method, Object[] given) throws IllegalAccessException {
        try {
            method.invoke(sea, given);
            return true;
        } catch (InvocationTargetException thrown) {
            System.out.println(thrown.getCause());
            return false;
        }
    }

    private static String someText(Random dice) {
        String signs = "..ABCabcr".substring(dice.nextInt(3));
        StringBuilder text = new StringBuilder();
        for (int y = 0; y < 10; y++) {
            text.append(y == 0 ? "" : "/");
            for (int x = 0; x < 12; x++) {
                text.append(signs.charAt(dice.nextInt(signs.length())));
            }
        }
        return text.toString();
    }

    private static int someInt(Random dice) {
        switch (dice.nextInt(4)) {
            case 0:
                return EDGES[dice.nextInt(EDGES.length)];
            case 1:
                return dice.nextInt(4);
            case 2:
                return dice.nextInt();
            default:
                return 100 * dice.nextInt(13) + dice.nextInt(11);
        }
    }

    private static long someBytes(Random dice) {
        long bytes = 0;
        for (int k = 0; k < 8; k++) {
            bytes = bytes << 8 | BYTES.charAt(dice.nextInt(BYTES.length()));
        }
        return dice.nextInt(4) == 0 ? dice.nextLong() : bytes;
    }
}
