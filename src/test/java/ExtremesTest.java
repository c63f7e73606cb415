import java.lang.reflect.InvocationTargetException;
import java.lang.reflect.Method;
import java.lang.reflect.Modifier;
import java.util.ArrayList;
import java.util.Comparator;
import java.util.List;
import java.util.NoSuchElementException;
import java.util.Random;

/** No call may throw, but for cluster's exception, whatever it is given and whatever the state. */
public final class ExtremesTest {
    private static final int[] NUMBERS = {0, 0, 1, 1, 2, 3, 4, 5, 6, 7, 12, 20, 40, 60, 61, 100, 101, 200, 201, 320, 9999, 10000,
        -1, -2, 1 << 30, Integer.MAX_VALUE, Integer.MAX_VALUE - 1, Integer.MIN_VALUE, Integer.MIN_VALUE + 1, 0x20202020, 0x61626364};
    private static final String[] CHIPS = {"cluster a 2 1 5;point a 4 2;point a 8 3;cluster b 1 0 0;point b 9 1;task t 6 2;task u 2 1;task v 4 4",
        "cluster a 3 99 99;cluster b 3 99 99;point a 99 99;point b 98 99;point b 99 99;task s 999 1;task t 999 1;task u 999 1;task v 99 1;limit 1",
        "cluster a 1 0 0;point a 1 1"};
    private static final Checks CHECKS = new Checks();

    public static void main(String[] args) throws IllegalAccessException {
        List<Method> face = new ArrayList<>();
        for (Method m : SpeedDesk.class.getDeclaredMethods()) {
            if (Modifier.isPublic(m.getModifiers())) {
                face.add(m);
            }
        }
        face.sort(Comparator.comparing(Method::getName));
        CHECKS.due("methods", face.size(), 37);
        for (int seed = 0; seed < 150; seed++) {
            oneRun(face, new Random(seed), seed);
        }
        CHECKS.close("ExtremesTest");
    }

    private static void oneRun(List<Method> face, Random random, int seed) throws IllegalAccessException {
        SpeedDesk desk = seed % 4 == 3 ? new SpeedDesk() : Checks.chip(CHIPS[seed % 4]);
        Checks.script(desk, "settle;tick 60;move 9 9;ask bob 9 9 9");
        Checks.script(desk, "tick 60;settle;tick 60;move 0 0;tick 60");
        for (int i = 0; i < 480; i++) {
            Method m = face.get(random.nextInt(face.size()));
            Object[] args = new Object[m.getParameterCount()];
            for (int a = 0; a < args.length; a++) {
                int number = NUMBERS[random.nextInt(NUMBERS.length)];
                args[a] = m.getParameterTypes()[a] == long.class ? (Object) random.nextLong() : (Object) number;
            }
            try {
                m.invoke(desk, args);
            } catch (InvocationTargetException e) {
                boolean due = m.getName().equals("cluster") && e.getCause() instanceof NoSuchElementException;
                CHECKS.due(m.getName() + java.util.Arrays.toString(args) + " throws " + e.getCause(), due, true);
            }
        }
    }
}
