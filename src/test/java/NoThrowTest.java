import java.lang.reflect.InvocationTargetException;
import java.lang.reflect.Method;
import java.util.Arrays;
import java.util.Comparator;
import java.util.Random;

/** Any arguments in any state: no call throws, and the numbers that are far out are all refused or answered NONE. */
public final class NoThrowTest {
    private static final int[] EDGES = {
        Integer.MIN_VALUE, Integer.MIN_VALUE + 1, -1000, -101, -100, -10, -9, -2, -1, 0, 1, 2, 3, 4, 5, 8, 9, 10, 15,
        16, 20, 31, 32, 33, 40, 64, 99, 100, 130, 140, 143, 144, 150, 430, 440, 500, 1 << 14, 1 << 20,
        Integer.MAX_VALUE - 1, Integer.MAX_VALUE,
    };
    private static final String[] FORMS = {
        "C0,1,0", "C0,2,1", "C0,1,2?0+", "C1,1,3", "C0,1,4", "S0,1,0", "S0,1,3", "D0,1,0+", "D0,1,1+?=4,0", "D0,1,2-",
        "D0,1,3+", "B0?3-", "B4", "V0,0,1", "V1,2,99?=0,1",
    };
    /** With those that tell the law an object is called 512 times at most. */
    private static final int CALLS = 400;
    private static final Check CHECK = new Check("NoThrowTest");

    public static void main(String[] args) throws Exception {
        Method[] methods = SelfLaw.class.getDeclaredMethods();
        methods = Arrays.stream(methods).filter(m -> java.lang.reflect.Modifier.isPublic(m.getModifiers()))
                .sorted(Comparator.comparing(Method::getName)).toArray(Method[]::new);
        Random random = new Random(7);
        for (int run = 0; run < 80; run++) {
            SelfLaw x = someLaw(random);
            for (int call = 0; call < CALLS; call++) {
                callAny(x, methods[random.nextInt(methods.length)], random);
            }
        }
        CHECK.end();
    }

    private static SelfLaw someLaw(Random random) {
        SelfLaw x = new SelfLaw();
        for (int group = 0; group < 4; group++) {
            x.seats(0, group, 1 + random.nextInt(3));
            x.seats(1, group, random.nextInt(2));
        }
        for (int clause = 0; clause < 5; clause++) {
            for (int form = 1; form <= 3; form++) {
                Laws.tell(x, clause, FORMS[random.nextInt(FORMS.length)]);
            }
            x.stand(clause, 1 + random.nextInt(3));
        }
        return x;
    }

    private static void callAny(SelfLaw x, Method method, Random random) throws IllegalAccessException {
        Class<?>[] types = method.getParameterTypes();
        Object[] given = new Object[types.length];
        for (int i = 0; i < types.length; i++) {
            int edge = EDGES[random.nextInt(EDGES.length)];
            int some = random.nextInt(3) > 0 ? edge : random.nextInt(8) == 0 ? random.nextInt() : random.nextInt(16);
            if (types[i] == boolean.class) {
                given[i] = random.nextBoolean();
            } else if (types[i] == long.class) {
                given[i] = random.nextLong();
            } else {
                given[i] = some;
            }
        }
        String call = method.getName() + Arrays.toString(given);
        try {
            int answer = (Integer) method.invoke(x, given);
            CHECK.due(call + " is an answer or a refusal", answer >= 0 || answer >= -4 || answer == -9 ? 1 : 0, 1);
        } catch (InvocationTargetException thrown) {
            CHECK.due(call + " threw " + thrown.getCause(), 1, 0);
        }
    }
}
