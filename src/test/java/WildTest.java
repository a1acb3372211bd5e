import java.lang.reflect.InvocationTargetException;
import java.lang.reflect.Method;
import java.lang.reflect.Modifier;
import java.util.ArrayList;
import java.util.Arrays;
import java.util.Comparator;
import java.util.List;
import java.util.Random;

/**
 * Rule 7 of LANGUAGE.md: no call ever throws, for any arguments in any state. All calls of the face are made with
 * numbers from the whole range, mostly the outermost and those beside the document's limits, and each answer is held
 * against the plain model's.
 */
public final class WildTest {
    private static final int RUNS = Integer.getInteger("runs", 600), CALLS = 512;

    private static final int[] NUMBERS = {0, 1, 2, 3, 4, 5, 6, 7, 8, 9, 10, 11, 12, 13, 40, 41, 49, 50, 59, 60, 61, 99,
        100, 101, 111, 112, 119, 120, 121, 143, 144, 255, 256, 600, 611, 700, 3012, 3100, 4095, 4096, 9999, 10000, 14311,
        14400, 32767, 32768, 214748364, 214748365, 21474836, 21474837, 715827882, 1 << 30};
    private static final String LETTERS = "ksabhm0123456789|&<=>+-*/%!()?;";

    private final Check check;
    private final int run;
    private final Random random;
    private final HiredShade shade = new HiredShade();
    private final Model model = new Model();
    private int calls;

    private WildTest(Check check, int run) {
        this.check = check;
        this.run = run;
        this.random = new Random(1000003L * run + 7);
    }

    public static void main(String[] args) throws ReflectiveOperationException {
        Check check = new Check();
        List<Method> face = face();
        check.due("calls of the face", face.size(), 42);
        for (int run = 0; run < RUNS && check.wrong() < 30; run++) {
            new WildTest(check, run).go(face);
        }
        check.end();
    }

    /** In an order of their own, since a class tells its methods in any. */
    private static List<Method> face() {
        List<Method> face = new ArrayList<>();
        for (Method m : HiredShade.class.getDeclaredMethods()) {
            if (Modifier.isPublic(m.getModifiers())) {
                face.add(m);
            }
        }
        face.sort(Comparator.comparing(Method::getName));
        return face;
    }

    private void go(List<Method> face) throws ReflectiveOperationException {
        while (calls < CALLS) {
            Method m = face.get(random.nextInt(face.size()));
            // Wild numbers alone are mostly refused: tame ones bring about a state that is worth asking.
            make(m, random.nextInt(2) == 0 ? tame(m) : wild(m));
        }
    }

    private Object[] tame(Method m) {
        Object[] args = new Object[m.getParameterCount()];
        Class<?>[] types = m.getParameterTypes();
        for (int i = 0; i < args.length; i++) {
            args[i] = types[i] == long.class ? (Object) random.nextLong() : (Object) random.nextInt(i == 0 ? 6 : 4);
        }
        if (m.getName().equals("feed")) {
            args[0] = letter();
        }
        return args;
    }

    private Object[] wild(Method m) {
        Object[] args = new Object[m.getParameterCount()];
        Class<?>[] types = m.getParameterTypes();
        boolean letter = m.getName().equals("feed") && random.nextInt(4) > 0;
        for (int i = 0; i < args.length; i++) {
            args[i] = letter ? (Object) letter()
                : types[i] == long.class ? (Object) ((long) number() << random.nextInt(33)) : (Object) number();
        }
        return args;
    }

    private int letter() {
        return LETTERS.charAt(random.nextInt(LETTERS.length()));
    }

    private int number() {
        switch (random.nextInt(12)) {
            case 0: return Integer.MIN_VALUE + random.nextInt(3);
            case 1: return Integer.MAX_VALUE - random.nextInt(3);
            case 2: return -1 - random.nextInt(3);
            case 3: return -NUMBERS[random.nextInt(NUMBERS.length)];
            case 4: return random.nextInt();
            case 5: case 6: return NUMBERS[random.nextInt(NUMBERS.length)];
            default: return random.nextInt(8);
        }
    }

    private void make(Method m, Object[] args) throws ReflectiveOperationException {
        calls++;
        String call = "run " + run + ", call " + calls + ": " + m.getName() + Arrays.toString(args);
        try {
            Number got = (Number) m.invoke(shade, args);
            Number want = (Number) Model.class.getDeclaredMethod(m.getName(), m.getParameterTypes()).invoke(model, args);
            check.due(call, got.longValue(), want.longValue());
        } catch (InvocationTargetException e) {
            check.holds(call + " threw " + e.getCause(), false);
        }
    }
}
