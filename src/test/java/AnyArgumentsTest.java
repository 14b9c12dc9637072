import java.lang.reflect.InvocationTargetException;
import java.lang.reflect.Method;
import java.lang.reflect.Modifier;
import java.util.ArrayList;
import java.util.Comparator;
import java.util.List;
import java.util.Random;

/** No call may throw, for any arguments in any state; the same calls give the same answers. */
public final class AnyArgumentsTest {
    private static final int[] EDGES = {
        Integer.MIN_VALUE, Integer.MIN_VALUE + 1, -42, -9, -2, -1, 0, 1, 2, 3, 4, 5, 6, 7, 8, 9, 10, 11, 12, 13,
        19, 20, 21, 39, 40, 41, 59, 60, 61, 98, 115, 2147483646, Integer.MAX_VALUE};
    private static final String[] LANDS = {
        "", "s0s0b011", "f3w1r2i4t5f2s1b423", "r9r9r9r9r9r9r9r9r9r9r9r9b999", "t9i9t9i9t9i9t9i9t9i9t9i9b099"};

    public static void main(String[] args) throws IllegalAccessException {
        Check check = new Check();
        Random random = new Random(49);
        List<Method> methods = face();
        check.due("methods of the face", methods.size(), 48);
        for (int run = 0; run < 300; run++) {
            String land = LANDS[run % LANDS.length];
            PaceBorder x = land.isEmpty() ? new PaceBorder() : Check.land(land);
            PaceBorder y = land.isEmpty() ? new PaceBorder() : Check.land(land);
            for (int call = 0; call < 480; call++) {
                Method method = methods.get(random.nextInt(methods.size()));
                if (method.getName().equals("land") && random.nextInt(9) != 0) continue;
                Object[] with = new Object[method.getParameterCount()];
                for (int i = 0; i < with.length; i++) {
                    with[i] = EDGES[random.nextInt(EDGES.length)];
                    if (random.nextBoolean()) with[i] = random.nextInt(8);
                }
                check.due(method.getName(), answer(method, x, with), answer(method, y, with));
            }
            check.due("digest()", x.digest(), y.digest());
        }
        check.end();
    }

    private static List<Method> face() {
        List<Method> methods = new ArrayList<>();
        for (Method method : PaceBorder.class.getDeclaredMethods()) {
            if (Modifier.isPublic(method.getModifiers())) methods.add(method);
        }
        methods.sort(Comparator.comparing(Method::getName));
        return methods;
    }

    private static long answer(Method method, PaceBorder x, Object[] with) throws IllegalAccessException {
        try {
            return ((Number) method.invoke(x, with)).longValue();
        } catch (InvocationTargetException e) {
            e.getCause().printStackTrace(System.out);
            System.out.println(method.getName() + " threw");
            System.exit(1);
            return 0;
        }
    }
}
