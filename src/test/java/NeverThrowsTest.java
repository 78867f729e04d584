import java.lang.reflect.Method;
import java.lang.reflect.Modifier;
import java.util.ArrayList;
import java.util.Comparator;
import java.util.List;
import java.util.Random;

/** All calls by chance, with numbers that are near the bounds or far beyond them: none may throw. */
public final class NeverThrowsTest {
    private static final Check CHECK = new Check("NeverThrowsTest");
    private static final Random RANDOM = new Random(57);
    private static final int[] EDGES = {0, 1, 2, 3, 4, 5, 6, 7, 8, 9, 10, 11, 12, 13, 14, 18, 19, 20, 31, 32, 39, 40, 41, 99, 100,
        255, 256, 500, 501, 999, 1000, 1279, 1280, 1500, 9999, 10000, -1, -2, -3, -9, -100, Integer.MAX_VALUE,
        Integer.MIN_VALUE, Integer.MAX_VALUE - 1, Integer.MIN_VALUE + 1, 1 << 30, 0x40000000, 65536};
    private static final String[] TEXTS = {
        "stakes 32;rod 2 thick 9 shrinks 50 price 99;rod 99 thick 1 shrinks 0 price 0;"
            + "band 4 before 4 behind 4 rounds 40 from 31 with 0 1 0 1 left in 9;slip 0 3 1279;slip 0 0 0;"
            + "band 3 before 1 behind 4 rounds 37 from 0 with 1 1 0 out 9;slip 1 2 7;overlap 20;wide 999;",
        "stakes 3;rod 2 thick 1 shrinks 0 price 0;band 1 before 1 behind 1 rounds 1 from 2 with 0;",
        "stakes 7;rod 5 thick 1 shrinks 3 price 2;band 2 before 2 behind 1 rounds 3 from 2 with 0 0 left;slip 0 1 5;wide 1;",
        "", "stakes 4;", "stakes 4;x"};

    public static void main(String[] args) throws Exception {
        List<Method> calls = new ArrayList<>();
        for (Method m : NoKnot.class.getDeclaredMethods()) if (Modifier.isPublic(m.getModifiers())) calls.add(m);
        calls.sort(Comparator.comparing(Method::getName));
        for (int run = 0; run < 500; run++) {
            NoKnot x = new NoKnot();
            for (int k = 0; k < 500; k++) {
                if (RANDOM.nextInt(40) == 0) prepare(x);
                call(x, calls.get(RANDOM.nextInt(calls.size())));
            }
        }
        CHECK.end();
    }

    private static void prepare(NoKnot x) {
        if (x.count(7) > 0) x.basket(0);
        int n = x.count(0);
        switch (RANDOM.nextInt(5)) {
            case 0:
                if (n > 0) Check.wish(x, ("2" + ".".repeat(n - 1) + ";").repeat(1 + RANDOM.nextInt(8)));
                break;
            case 1:
                if (n > 0) Check.print(x, ("o" + "u".repeat(n - 2) + "?;").repeat(1 + RANDOM.nextInt(8)));
                break;
            case 2:
                long[] values = new long[RANDOM.nextInt(10)];
                for (int k = 0; k < values.length; k++) values[k] = RANDOM.nextInt(RANDOM.nextBoolean() ? 3 : 200) + RANDOM.nextInt(2);
                Check.row(x, RANDOM.nextInt(4), RANDOM.nextInt(4), values);
                break;
            default:
                Check.basket(x, TEXTS[RANDOM.nextInt(TEXTS.length)]);
        }
    }

    private static void call(NoKnot x, Method m) {
        Class<?>[] types = m.getParameterTypes();
        Object[] given = new Object[types.length];
        for (int k = 0; k < types.length; k++) {
            int small = RANDOM.nextInt(4);
            int number = RANDOM.nextInt(3) > 0 ? small : EDGES[RANDOM.nextInt(EDGES.length)];
            if (types[k] == boolean.class) given[k] = RANDOM.nextBoolean();
            else if (types[k] == long.class) given[k] = RANDOM.nextInt(3) == 0 ? RANDOM.nextLong() : (long) number;
            else given[k] = number;
        }
        try {
            m.invoke(x, given);
            CHECK.is("answered", 1, 1);
        } catch (ReflectiveOperationException e) {
            CHECK.is(m.getName() + java.util.Arrays.toString(given) + " threw " + e.getCause(), 0, 1);
        }
    }
}
