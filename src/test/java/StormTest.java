import java.lang.reflect.InvocationTargetException;
import java.lang.reflect.Method;
import java.lang.reflect.Modifier;
import java.util.ArrayList;
import java.util.Comparator;
import java.util.List;
import java.util.Random;
import java.util.function.Supplier;

/**
 * No call may ever throw, for any arguments in any state, and the same calls always give the same
 * answers: numbers at and far beyond every bound of the document, drawn together at random.
 */
public final class StormTest {
    private static final Check CHECK = new Check("storm");
    private static final int RUNS = Integer.getInteger("runs", 400);
    private static final int CALLS = 440;
    private static final long SEED = Long.getLong("seed", 20261118L);
    private static final int[] NUMBERS = {
        Integer.MIN_VALUE, Integer.MIN_VALUE + 1, -65536, -1001, -100, -20, -2, -1, 0, 1, 2, 3, 4, 5, 6, 7, 8, 9, 10, 11, 12, 13,
        15, 16, 17, 20, 21, 31, 32, 33, 63, 64, 79, 80, 81, 99, 100, 127, 128, 255, 256, 999, 1000, 4095, 4096, 65535, 65536,
        1 << 30, Integer.MAX_VALUE - 1, Integer.MAX_VALUE};

    private StormTest() {
    }

    public static void main(String[] args) throws Exception {
        List<Method> calls = new ArrayList<>();
        for (Method method : OneOfEach.class.getDeclaredMethods()) {
            if (Modifier.isPublic(method.getModifiers())) {
                calls.add(method);
            }
        }
        calls.sort(Comparator.comparing(Method::getName));
        List<Supplier<OneOfEach>> makers = List.of(OneOfEach::new, Twins::rich, Twins::crowded, Make::twelve);
        for (int run = 0; run < RUNS && CHECK.wrong() == 0; run++) {
            Supplier<OneOfEach> maker = makers.get(run % makers.size());
            List<Long> answers = storm(calls, maker.get(), new Random(SEED + run), run);
            CHECK.holds("run " + run + ": the same answers again", answers.equals(storm(calls, maker.get(), new Random(SEED + run), run)));
        }
        CHECK.end();
    }

    private static List<Long> storm(List<Method> calls, OneOfEach x, Random random, int run) throws IllegalAccessException {
        List<Long> answers = new ArrayList<>();
        for (int i = 0; i < CALLS; i++) {
            Method call = calls.get(random.nextInt(calls.size()));
            Object[] numbers = numbers(call, random);
            String told = "run " + run + ": " + call.getName() + java.util.Arrays.toString(numbers);
            try {
                long answer = ((Number) call.invoke(x, numbers)).longValue();
                CHECK.holds(told + " answered " + answer, answer >= -1001);
                answers.add(answer);
            } catch (InvocationTargetException e) {
                CHECK.holds(told + " threw " + e.getCause(), false);
            }
        }
        return answers;
    }

    private static Object[] numbers(Method call, Random random) {
        Object[] numbers = new Object[call.getParameterCount()];
        // Of some calls all numbers are small, or hardly any call with many of them would be taken.
        int end = random.nextBoolean() ? NUMBERS.length : 8;
        int from = end == 8 ? 7 : 0;
        for (int i = 0; i < numbers.length; i++) {
            int number = NUMBERS[from + random.nextInt(end)];
            boolean isLong = call.getParameterTypes()[i] == long.class;
            numbers[i] = isLong ? (Object) (random.nextInt(4) == 0 ? random.nextLong() : 0x616c312d393a7820L) : (Object) number;
        }
        return numbers;
    }
}
