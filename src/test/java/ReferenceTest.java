import java.lang.reflect.InvocationTargetException;
import java.lang.reflect.Method;
import java.util.ArrayList;
import java.util.Arrays;
import java.util.Comparator;
import java.util.List;
import java.util.Random;

/** All promises: random runs of calls, each answered by HeelDance as by PlainDance. */
public final class ReferenceTest {
    private static final Check CHECK = new Check("ReferenceTest");
    private static final int RUNS = 1500;
    private static final int[] ODD = {-1, Integer.MIN_VALUE, Integer.MAX_VALUE, 5, 6, 9, 10, 14, 41, 61, 128, 1000};
    private static final String[] WORDS = {"plain", "booted", "bent", "hearth", "cousins", "program", "up", "down", "waltz",
        "mirror", ";", " ", "1", "12", "123", "?", "jig", "9", "10", "4", "5"};

    private final Random random;
    private final HeelDance x = new HeelDance();
    private final PlainDance plain = new PlainDance();
    private final List<String> told = new ArrayList<>();

    private ReferenceTest(long seed) {
        random = new Random(seed);
    }

    public static void main(String[] args) throws ReflectiveOperationException {
        Method[] face = HeelDance.class.getDeclaredMethods();
        List<Method> methods = new ArrayList<>(Arrays.stream(face)
            .filter(m -> java.lang.reflect.Modifier.isPublic(m.getModifiers()))
            .filter(m -> !m.getName().equals("feed") && !m.getName().equals("end") && !m.getName().equals("text"))
            .sorted(Comparator.comparing(Method::getName)).toList());
        boolean right = true;
        for (long seed = 0; seed < RUNS && right; seed++) {
            right = new ReferenceTest(seed).run(methods);
        }
        CHECK.close();
    }

    private boolean run(List<Method> methods) throws ReflectiveOperationException {
        int budget = 512;
        budget -= tell(text(random.nextInt(8) != 0));
        // heels and heat stay as told in some runs, or nearly all would be worn out
        boolean undanced = random.nextInt(4) == 0;
        for (int i = 0; i < 120 && budget > 200; i++, budget--) {
            if (random.nextInt(60) == 0) {
                budget -= tell(text(random.nextInt(3) != 0));
            }
            Method m = methods.get(random.nextInt(methods.size()));
            if (undanced && (m.getName().equals("dance") || m.getName().equals("read"))) {
                continue;
            }
            if (!same(m, arguments(m))) {
                System.out.println(String.join("\n", told));
                return false;
            }
        }
        return true;
    }

    private int tell(String text) {
        for (int i = 0; i < text.length(); i++) {
            CHECK.due("feed", x.feed(text.charAt(i)), plain.feed(text.charAt(i)));
        }
        if (random.nextInt(10) == 0) {
            int n = random.nextInt(text.length() + 2);
            CHECK.due("end", x.end(n), plain.end(n));
        }
        told.add("text '" + text + "'");
        CHECK.due("text '" + text + "'", x.text(), plain.text());
        CHECK.due("fault", x.fault(), plain.fault());
        return text.length() + 3;
    }

    private String text(boolean whole) {
        StringBuilder text = new StringBuilder();
        if (!whole && random.nextBoolean()) {
            for (int i = random.nextInt(25); i > 0; i--) {
                text.append(WORDS[random.nextInt(WORDS.length)]).append(random.nextInt(3) == 0 ? "" : " ");
            }
            return text.toString();
        }
        int men = whole ? 1 + random.nextInt(5) : random.nextInt(7);
        int heights = random.nextBoolean() ? 10 : 4;
        for (int i = 0; i < men; i++) {
            text.append(WORDS[random.nextInt(4)]).append(' ').append(random.nextInt(heights)).append(' ')
                .append(random.nextInt(heights)).append(';');
        }
        for (int i = random.nextInt(3); i > 0; i--) {
            int w = random.nextInt(whole ? men : 6);
            text.append("cousins ").append(w).append(' ').append(random.nextInt(whole ? men : 6)).append(';');
        }
        if (random.nextInt(6) != 0) {
            text.append("program");
            for (int i = random.nextInt(whole ? 7 : 11); i > 0; i--) {
                text.append(' ').append(WORDS[6 + random.nextInt(4)]);
            }
            text.append(';');
        }
        if (!whole && text.length() > 0) {
            text.setCharAt(random.nextInt(text.length()), WORDS[random.nextInt(WORDS.length)].charAt(0));
        }
        return text.toString();
    }

    private Object[] arguments(Method m) {
        Class<?>[] types = m.getParameterTypes();
        Object[] arguments = new Object[types.length];
        for (int i = 0; i < types.length; i++) {
            arguments[i] = types[i] == boolean.class ? (Object) random.nextBoolean() : (Object) number(m.getName(), i);
        }
        return arguments;
    }

    private int number(String name, int i) {
        if (random.nextInt(25) == 0) {
            return ODD[random.nextInt(ODD.length)];
        }
        boolean what = i == 1 && name.equals("best") || name.equals("orders");
        if (what && random.nextBoolean()) {
            return 10 + random.nextInt(6);
        }
        if (name.equals("coins")) {
            return random.nextInt(1 << random.nextInt(6));
        }
        if (name.equals("drift")) {
            return i == 0 ? random.nextInt() : i == 1 ? random.nextInt(62) : random.nextInt(2);
        }
        if (name.equals("alter") && i == 2 || name.equals("luck") && i == 0 || name.equals("mean") && i == 0) {
            return random.nextInt(11);
        }
        if (name.equals("cut") || name.equals("forget")) {
            return random.nextInt(8);
        }
        if (name.equals("sheet") && i == 2) {
            return random.nextInt(44) - 2;
        }
        if (name.equals("lay") && i == 1 || name.equals("read") && i == 2) {
            return random.nextInt(random.nextBoolean() ? 4 : 42);
        }
        if (name.equals("lay") && i == 2) {
            return random.nextInt(4) + (random.nextInt(4) == 0 ? 256 : 0) + (random.nextInt(4) == 0 ? 65536 : 0);
        }
        return random.nextInt(random.nextInt(4) == 0 ? 9 : 4);
    }

    private boolean same(Method m, Object[] arguments) throws ReflectiveOperationException {
        String call = m.getName() + Arrays.toString(arguments);
        Method other = PlainDance.class.getDeclaredMethod(m.getName(), m.getParameterTypes());
        long want = ((Number) other.invoke(plain, arguments)).longValue();
        long got;
        try {
            got = ((Number) m.invoke(x, arguments)).longValue();
        } catch (InvocationTargetException e) {
            System.out.println(call + " threw " + e.getCause());
            got = want + 1;
        }
        told.add(call + " " + got);
        CHECK.due(call, got, want);
        return got == want;
    }
}
