import java.lang.reflect.InvocationTargetException;
import java.lang.reflect.Method;
import java.util.Arrays;
import java.util.Random;

/** Whatever is asked, in any state: only what a call declares is ever thrown, and by itself, not by the machine. */
public final class NothingElseThrownTest {
    private static final int[] ODD = {0, 1, 2, 3, 4, 5, 6, 7, 8, 9, -1, -2, -3, 10, 11, 12, 20, 60, 61, 80, 91, 400, 401, 700,
        728, 729, 1 << 16, Integer.MAX_VALUE, Integer.MIN_VALUE, Integer.MAX_VALUE - 1, Integer.MIN_VALUE + 1};
    private static final String[] TOWNS = {"", "person;", "sorts 8;person has 7 20;person has 0 20 worth 7 1;meet 0 1;",
        "sorts 8;law 3 spoon 7 burns;" + "person has 7 2 has 0 3 has 3 1 worth 0 1 worth 3 9 worth 7 2 falls 1;".repeat(6)
                + "tie 7 7 0;tie 0 0 7;tie 3 0 1;tie 1 1 2;" + "meet 0 5;meet 5 1;".repeat(4),
        "sorts 3;law 1;person has 0 2 has 1 1 worth 2 9;person has 2 2 worth 0 5 worth 1 6;person has 1 1 worth 0 7;"
                + "meet 0 1;meet 1 2;meet 0 2;tie 0 1 2;"};

    public static void main(String[] args) throws Exception {
        Method[] calls = Arrays.stream(TwoForOne.class.getDeclaredMethods())
                .filter(m -> java.lang.reflect.Modifier.isPublic(m.getModifiers()))
                .sorted((m, n) -> m.getName().compareTo(n.getName())).toArray(Method[]::new);
        Random random = new Random(11);
        for (int round = 0; round < 90; round++) {
            TwoForOne x = new TwoForOne();
            for (int k = 0; k < 300; k++) {
                if (k % 90 == 0) {
                    Check.tell(x, TOWNS[random.nextInt(TOWNS.length)]);
                }
                play(x, calls[random.nextInt(calls.length)], random);
            }
        }
        Check.end();
    }

    private static void play(TwoForOne x, Method call, Random random) throws Exception {
        Object[] numbers = new Object[call.getParameterCount()];
        for (int i = 0; i < numbers.length; i++) {
            numbers[i] = random.nextInt(10) == 0 ? random.nextInt() : ODD[random.nextInt(random.nextBoolean() ? 4 : ODD.length)];
        }
        try {
            call.invoke(x, numbers);
        } catch (InvocationTargetException e) {
            Throwable thrown = e.getCause();
            boolean declared = Arrays.asList(call.getExceptionTypes()).contains(thrown.getClass());
            StackTraceElement[] trace = thrown.getStackTrace();
            boolean own = trace.length > 0 && trace[0].getClassName().startsWith("TwoForOne");
            Check.due(call.getName() + Arrays.toString(numbers) + " threw " + thrown, declared && own, true);
        }
    }
}
