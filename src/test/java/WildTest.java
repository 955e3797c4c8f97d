import java.lang.reflect.InvocationTargetException;
import java.lang.reflect.Method;
import java.util.ArrayList;
import java.util.Comparator;
import java.util.List;
import java.util.Random;

/**
 * Whatever is called with whatever arguments, far beyond 512 calls too: nothing is thrown, and the
 * same calls on another object, with a third one called in between, have the same answers.
 */
final class WildTest {
    private static final int RUNS = 60;
    private static final int CALLS = 3000;
    private static final int[] WILD = {Integer.MIN_VALUE, Integer.MIN_VALUE + 1, -4096, -105, -104, -103, -102, -101,
        -33, -32, -31, -25, -9, -8, -2, -1, 8, 9, 12, 13, 24, 25, 26, 30, 31, 32, 33, 40, 41, 50, 51, 63, 64, 80, 81,
        4094, 4095, 4096, 1 << 16, 1 << 30, Integer.MAX_VALUE - 1, Integer.MAX_VALUE};
    private static final String[] TEXTS = {"0", "{?a!b}", "{!a?b}", "(?a|?b|!c)", "{(?a|?b|?c|!d|!e|!f)}",
        "{(!a|!b|!c|?d|?e|?f)}", "{?a{?b{?c}}}", "(((0|0)|0)|!h)", "?a?a?a?a?a?a?a?a?a?a?a?a?a?a?a?a?a?a?a?a?a?a?a?a",
        "?a?a?a?a?a?a?a?a?a?a?a?a?a?a?a?a?a?a?a?a?a?a?a?a?a", "{(!a|!b|!c|!d|!e|!f|!g|!h)}", "?a|", "(", "{{{0}}}"};

    private final Random random;
    private final List<Method> face = new ArrayList<>();

    private WildTest(int seed) {
        random = new Random(seed);
        for (Method method : HelperWeave.class.getMethods()) {
            if (method.getDeclaringClass() == HelperWeave.class) {
                face.add(method);
            }
        }
        face.sort(Comparator.comparing(Method::getName));
    }

    private int anyInt() {
        switch (random.nextInt(8)) {
            case 0: return WILD[random.nextInt(WILD.length)];
            case 1: return random.nextInt();
            case 2: return random.nextInt(4096);
            case 3: return 1 << random.nextInt(12);
            default: return random.nextInt(6);
        }
    }

    private long anyLetters() {
        switch (random.nextInt(4)) {
            case 0: return random.nextLong();
            case 1: return random.nextLong() & 0x7F7F7F7F7F7F7F7FL;
            default: return "?!abch(|){}0".charAt(random.nextInt(12));
        }
    }

    private Object any(Class<?> type) {
        if (type == boolean.class) {
            return random.nextBoolean();
        }
        return type == long.class ? (Object) anyLetters() : (Object) anyInt();
    }

    private static String answer(HelperWeave x, Method method, Object[] arguments) throws IllegalAccessException {
        try {
            return String.valueOf(method.invoke(x, arguments));
        } catch (InvocationTargetException e) {
            return "throws " + e.getCause();
        }
    }

    private Method anyCall() {
        return face.get(random.nextInt(face.size()));
    }

    private Object[] anyArguments(Method method) {
        Object[] arguments = new Object[method.getParameterCount()];
        for (int i = 0; i < arguments.length; i++) {
            arguments[i] = any(method.getParameterTypes()[i]);
        }
        return arguments;
    }

    private void run(String name) throws IllegalAccessException {
        HelperWeave x = new HelperWeave();
        HelperWeave y = new HelperWeave();
        HelperWeave other = new HelperWeave();
        for (int i = 0; i < CALLS; i++) {
            if (random.nextInt(60) == 0) {
                String text = TEXTS[random.nextInt(TEXTS.length)];
                Check.due(name + ", talk() of " + text, Check.talk(x, text), Check.talk(y, text));
                Check.talk(other, TEXTS[random.nextInt(TEXTS.length)]);
            }
            Method method = anyCall();
            Object[] arguments = anyArguments(method);
            String first = answer(x, method, arguments);
            Method between = anyCall();
            answer(other, between, anyArguments(between));
            String second = answer(y, method, arguments);
            String call = name + ", call " + i + ": " + method.getName() + List.of(arguments) + " answered " + first;
            Check.due(call, first.startsWith("throws") ? 1 : 0, 0);
            Check.due(call + ", and then " + second, first.equals(second) ? 1 : 0, 1);
        }
        Check.due(name + ", digest()", x.digest(), y.digest());
    }

    public static void main(String[] args) throws IllegalAccessException {
        for (int seed = 0; seed < RUNS; seed++) {
            new WildTest(seed).run("run " + seed);
        }
        Check.finish("WildTest");
    }
}
