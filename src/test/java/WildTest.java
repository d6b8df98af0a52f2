import java.lang.reflect.InvocationTargetException;
import java.lang.reflect.Method;
import java.lang.reflect.Modifier;
import java.util.Arrays;
import java.util.Comparator;
import java.util.Random;
import java.util.Set;

/**
 * Calls with any arguments, drawn without regard to what they mean: none throws, also long after the 512th, and up to
 * that one each answers as PlainMoons does.
 */
public final class WildTest {
    private static final int RUNS = 400;
    private static final int PROMISED = 512;
    private static final int CALLS = 1500;
    /** Every bound that the document names, and some numbers between. */
    private static final int[] BOUNDS = {0, 1, 2, 3, 4, 5, 6, 7, 8, 9, 10, 12, 16, 18, 20, 30, 39, 40, 43, 48, 49, 60,
        80, 99, 100, 101, 342, 343, 500, 600, 999, 1000, 1999, 2000, 5000, 5533, 7533, 7999, 8000, 9999, 19999, 43200,
        86400, 99999, 100000, 999999, 1000000, 31556952, 99999999, 999999999, 1999999999, Integer.MAX_VALUE};
    private static final String TEXT_BYTES = "eolp0123+++x";
    private static final String[] TEXTS = {"e", "l", "p2", "e+l", "l+o", "p0+e", "o+p1+l", "p3+p1+e", "p1+p2+p0"};
    /** Drawn as often as the others, these would leave little to ask of. */
    private static final Set<String> SELDOM = Set.of("restore", "takeBack", "table");

    private final Random random;
    private final int run;
    private final LateMoons real = new LateMoons();
    private final PlainMoons plain = new PlainMoons();
    private int made;

    private WildTest(int run) {
        this.run = run;
        this.random = new Random(1000003L * run);
    }

    public static void main(String[] args) throws Exception {
        Method[] methods = Arrays.stream(LateMoons.class.getDeclaredMethods())
            .filter(m -> Modifier.isPublic(m.getModifiers())).toArray(Method[]::new);
        // the machine tells them in no order that can be counted on
        Arrays.sort(methods, Comparator.comparing(Method::getName));
        int wrong = 0;
        for (int run = 0; run < RUNS; run++) {
            wrong += new WildTest(run).plays(methods) ? 0 : 1;
        }
        System.out.println(RUNS + " runs, " + wrong + " with a wrong answer");
        if (wrong != 0 || methods.length != 33) {
            System.exit(1);
        }
    }

    private boolean plays(Method[] methods) throws Exception {
        while (made < CALLS) {
            // a text, a row, a sight or a moon that could be taken would hardly ever be drawn
            if (!playsOne(random.nextInt(30), methods)) {
                return false;
            }
        }
        return true;
    }

    private boolean playsOne(int draw, Method[] methods) throws Exception {
        switch (draw) {
            case 0:
                return feedsText();
            case 1:
                return putsRow();
            case 2:
            case 3:
                return seesOne();
            case 4:
                return tellsMoon();
            default:
                Method method = methods[random.nextInt(methods.length)];
                return SELDOM.contains(method.getName()) && random.nextInt(6) > 0 || same(method, null);
        }
    }

    private boolean tellsMoon() throws Exception {
        int m = random.nextInt(4);
        int first = random.nextInt(200);
        int period = 1000 + random.nextInt(100);
        return same(LateMoons.class.getMethod("guess", int.class, int.class, int.class),
                new Object[] {m, first + random.nextInt(50), period})
            && same(LateMoons.class.getMethod("moon", int.class, int.class, int.class, int.class, int.class),
                new Object[] {m, first, period, random.nextInt(100), random.nextInt(50)});
    }

    private boolean feedsText() throws Exception {
        String text = random.nextInt(4) > 0 ? TEXTS[random.nextInt(TEXTS.length)] : anyText();
        long bytes = 0;
        for (int i = 0; i < text.length(); i++) {
            bytes |= (long) text.charAt(i) << (8 * i);
        }
        return same(LateMoons.class.getMethod("feed", int.class, long.class), new Object[] {text.length(), bytes})
            && same(LateMoons.class.getMethod("table"), new Object[0]);
    }

    private String anyText() {
        StringBuilder text = new StringBuilder();
        int n = 1 + random.nextInt(8);
        for (int i = 0; i < n; i++) {
            text.append(TEXT_BYTES.charAt(random.nextInt(TEXT_BYTES.length())));
        }
        return text.toString();
    }

    private boolean putsRow() throws Exception {
        int[] row = {random.nextInt(4), random.nextInt(20), random.nextInt(8), random.nextInt(6), random.nextInt(4),
            random.nextInt(4), random.nextInt(3), random.nextInt(100000)};
        for (int v : row) {
            if (!same(LateMoons.class.getMethod("put", int.class), new Object[] {v})) {
                return false;
            }
        }
        return true;
    }

    private boolean seesOne() throws Exception {
        int told = 1000 * random.nextInt(8) + 100 * random.nextInt(6) + 10 * random.nextInt(4) + random.nextInt(4);
        Object[] arguments = {random.nextInt(4), random.nextInt(20), told, random.nextInt(20000)};
        return same(LateMoons.class.getMethod("sight", int.class, int.class, int.class, int.class), arguments);
    }

    private boolean same(Method method, Object[] told) throws Exception {
        Object[] arguments = told == null ? drawn(method.getParameterTypes()) : told;
        String call = "run " + run + ", call " + made + ": " + method.getName() + Arrays.toString(arguments);
        made++;
        Object got;
        try {
            got = method.invoke(real, arguments);
        } catch (InvocationTargetException e) {
            System.out.println(call + " threw " + e.getCause());
            return false;
        }
        // the plain model is slow, and what the class answers after its last promised call is free
        if (made > PROMISED) {
            return true;
        }
        Object due = PlainMoons.class.getDeclaredMethod(method.getName(), method.getParameterTypes())
            .invoke(plain, arguments);
        if (!got.equals(due)) {
            System.out.println(call + " answered " + got + ", due is " + due);
        }
        return got.equals(due);
    }

    private Object[] drawn(Class<?>[] types) {
        Object[] arguments = new Object[types.length];
        for (int i = 0; i < types.length; i++) {
            if (types[i] == boolean.class) {
                arguments[i] = random.nextBoolean();
            } else if (types[i] == long.class) {
                arguments[i] = aLong();
            } else {
                arguments[i] = anInt();
            }
        }
        return arguments;
    }

    private int anInt() {
        switch (random.nextInt(12)) {
            case 0:
                return random.nextInt();
            case 1:
                return -BOUNDS[random.nextInt(BOUNDS.length)] - random.nextInt(2);
            case 2:
            case 3:
            case 4:
                return BOUNDS[random.nextInt(BOUNDS.length)];
            default:
                return random.nextInt(5);
        }
    }

    private long aLong() {
        switch (random.nextInt(8)) {
            case 0:
                return random.nextLong();
            case 1:
                return Long.MIN_VALUE + random.nextInt(2);
            case 2:
                return 1L << random.nextInt(64);
            default:
                return random.nextLong() & (1L << plain.count(1)) - 1;
        }
    }
}
