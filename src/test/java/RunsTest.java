import java.lang.reflect.InvocationTargetException;
import java.lang.reflect.Method;
import java.lang.reflect.Modifier;
import java.util.ArrayList;
import java.util.Arrays;
import java.util.Comparator;
import java.util.List;
import java.util.Random;

/** Long runs of calls, as chance (always the same) has them, on ThinTables and on SlowTables. */
public final class RunsTest {
    private static final int RUNS = 600;
    private static final int CALLS = 512;
    private static final int[] PRIMES = {2, 3, 5, 7, 11, 101, 10007, 46327, 46337};
    private static final int[] STRANGE = {Integer.MIN_VALUE, Integer.MAX_VALUE, -1, 31, 32, 1 << 20, 1 << 30, -100};

    public static void main(String[] args) throws ReflectiveOperationException {
        Due due = new Due();
        List<Method> face = face();
        for (int run = 0; run < RUNS; run++) {
            new RunsTest(run, face).run(due);
        }
        due.end();
    }

    private final Random chance;
    private final int number;
    private final List<Method> face;
    private final ThinTables fast = new ThinTables();
    private final SlowTables slow = new SlowTables();
    private final int mostRows;
    private final double thin;
    private final int mostValue;
    private int n = 4;

    private RunsTest(int number, List<Method> face) {
        this.number = number;
        this.face = face;
        chance = new Random(number);
        mostRows = new int[] {3, 5, 6, 8, 12, 20}[number % 6];
        thin = new double[] {0.1, 0.2, 0.35, 0.6}[chance.nextInt(4)];
        mostValue = new int[] {1, 3, 99}[chance.nextInt(3)];
    }

    private static List<Method> face() {
        List<Method> all = new ArrayList<>();
        for (Method method : ThinTables.class.getDeclaredMethods()) {
            if (Modifier.isPublic(method.getModifiers())) {
                all.add(method);
            }
        }
        all.sort(Comparator.comparing(Method::getName));
        return all;
    }

    private void run(Due due) throws ReflectiveOperationException {
        int calls = 0;
        while (calls < CALLS) {
            calls += chance.nextInt(40) == 0 || calls == 0 ? newTable(due, CALLS - calls) : anyCall(due);
        }
    }

    /** A new size and a table that chance fills; most often with a diagonal, so that it can be solved. */
    private int newTable(Due due, int left) throws ReflectiveOperationException {
        int calls = call(due, "size", 1 + chance.nextInt(mostRows));
        boolean diagonal = chance.nextInt(3) != 0;
        for (int i = 0; i < n; i++) {
            for (int j = 0; j < n; j++) {
                boolean filled = chance.nextDouble() < thin || diagonal && i == (j + 1) % n;
                if (filled && calls < left / 2) {
                    calls += call(due, "set", i, j, value());
                }
            }
            if (calls < left / 2 && chance.nextBoolean()) {
                calls += call(due, "side", i, value());
            }
        }
        return calls;
    }

    private int value() {
        return chance.nextInt(2 * mostValue + 1) - mostValue;
    }

    private int anyCall(Due due) throws ReflectiveOperationException {
        Method method = face.get(chance.nextInt(face.size()));
        String name = method.getName();
        if (name.equals("size") || name.equals("order") && chance.nextInt(3) != 0 && n > 9) {
            return 0;
        }
        int[] numbers = new int[method.getParameterCount()];
        for (int k = 0; k < numbers.length; k++) {
            numbers[k] = number(name, k);
        }
        return call(due, name, numbers);
    }

    private int number(String name, int k) {
        int kind = chance.nextInt(60);
        if (kind == 0) {
            return STRANGE[chance.nextInt(STRANGE.length)];
        }
        if (kind == 1) {
            return chance.nextBoolean() ? n : n - 1;
        }
        switch (name + k) {
            case "set2": case "side1": case "changed2":
                return kind == 2 ? 98 + chance.nextInt(3) : kind == 3 ? -98 - chance.nextInt(3) : value();
            case "count0":
                return chance.nextInt(10);
            case "columns0":
                return chance.nextInt((1 << n) + 1);
            case "order0": case "node1":
                return chance.nextInt(4);
            case "prime0":
                return kind < 20 ? chance.nextInt(46400) : PRIMES[chance.nextInt(PRIMES.length)];
            case "factor2":
                return chance.nextInt(2);
            case "exact1":
                return chance.nextInt(3);
            default:
                return chance.nextInt(n);
        }
    }

    private int call(Due due, String name, int... numbers) throws ReflectiveOperationException {
        Object[] boxed = Arrays.stream(numbers).boxed().toArray();
        Class<?>[] types = new Class<?>[numbers.length];
        Arrays.fill(types, int.class);
        long want = answer(SlowTables.class.getMethod(name, types), slow, boxed);
        long got = answer(ThinTables.class.getMethod(name, types), fast, boxed);
        due.is("run " + number + ": " + name + Arrays.toString(numbers), got, want);
        if (name.equals("size") && want != SlowTables.OUTSIDE) {
            n = numbers[0];
        }
        return 1;
    }

    private static long answer(Method method, Object object, Object[] numbers) throws ReflectiveOperationException {
        try {
            method.setAccessible(true);
            return ((Number) method.invoke(object, numbers)).longValue();
        } catch (InvocationTargetException thrown) {
            throw new IllegalStateException(method + Arrays.toString(numbers), thrown.getCause());
        }
    }
}
