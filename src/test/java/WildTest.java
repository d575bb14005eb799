import java.lang.reflect.InvocationTargetException;
import java.lang.reflect.Method;
import java.util.Arrays;
import java.util.Comparator;
import java.util.Random;

/** Any arguments in any state: nothing but what a method names is thrown, and then nothing has changed. */
public final class WildTest {
    private static final int RUNS = 300;
    private static final int CALLS = 512;
    private static final int[] EDGES = {Integer.MIN_VALUE, Integer.MIN_VALUE + 1, -5001, -1, 0, 1, 2, 3, 4, 7, 8, 9, 10, 11, 12,
        13, 19, 20, 39, 40, 41, 99, 100, 101, 255, 256, 1023, 1024, 1999, 2000, 4999, 5000, 5001, 8172, 8173, 8192, 8193,
        Integer.MAX_VALUE - 1, Integer.MAX_VALUE};
    private static final String[] TEXTS = {
        "l: spawn l dup emit self send drop recv drop emit jump l",
        "l: 2147483647 sleep jump l",
        "l: -2147483648 -1 / emit -2147483648 -1 % emit 1 sleep jump l",
        "l: 7 down jump l", "l: 7 up 7 up 1 sleep jump l", "l: readkey emit jump l", "l: recv emit send drop jump l",
        "l: 3 alloc drop 1 level 5 alloc free drop jump l", "l: call l", "return", "-1 @", "1 2147483647 !", "-2147483648 free give",
        "l: 5 jump l", "2147483647 -2147483648 give", "1 -2147483648 send", "-2147483648 wait", "2147483647 kill",
        "-2147483648 exit", "spawn c wait c: 3 sleep 2147483647 level", "jump e e:", "l: 1024 alloc -1 alloc 2147483647 alloc"
    };

    private final Random random;
    private final ShareMonitor m = new ShareMonitor();

    private WildTest(int seed) {
        random = new Random(seed);
    }

    public static void main(String[] args) throws IllegalAccessException {
        Method[] face = ShareMonitor.class.getDeclaredMethods();
        // The order that reflection tells is not promised; each run must be the same.
        Arrays.sort(face, Comparator.comparing(Method::getName));
        for (int seed = 0; seed < RUNS; seed++) {
            WildTest test = new WildTest(seed);
            for (int i = 0; i < CALLS; i++) {
                test.callOne(face[test.random.nextInt(face.length)]);
            }
        }
        Check.close("WildTest");
    }

    private void callOne(Method method) throws IllegalAccessException {
        if (method.getName().equals("load") && random.nextInt(8) != 0) {
            m.end(0);
            Check.feed(m, TEXTS[random.nextInt(TEXTS.length)]);
        }
        Object[] arguments = new Object[method.getParameterCount()];
        for (int i = 0; i < arguments.length; i++) {
            arguments[i] = method.getParameterTypes()[i] == boolean.class ? (Object) random.nextBoolean() : (Object) number();
        }
        String told = method.getName() + Arrays.toString(arguments);
        String before = Picture.of(m);
        try {
            Check.yes(told, method.invoke(m, arguments) != null || method.getReturnType() == void.class);
        } catch (InvocationTargetException e) {
            Class<?> thrown = e.getCause().getClass();
            Check.yes(told + " threw " + thrown, Arrays.asList(method.getExceptionTypes()).contains(thrown));
            Check.text("behind " + told, Picture.of(m), before);
        }
    }

    private int number() {
        switch (random.nextInt(4)) {
            case 0: return EDGES[random.nextInt(EDGES.length)];
            case 1: return random.nextInt();
            default: return random.nextInt(14);
        }
    }
}
