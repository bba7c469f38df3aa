import java.lang.reflect.InvocationTargetException;
import java.lang.reflect.Method;
import java.util.Arrays;
import java.util.Comparator;

/** Runs of calls made by a row of numbers (always the same one), each answer held against PlainFamily's. */
public final class RandomRunsTest {
    private static final int RUNS = 240;
    private static final int FULL_RUNS = 40;
    private static final int FULL_CALLS = 16 + 12 * 11 + 9 + 9 * 8 + 12;
    private static final int CALLS = 512;
    private static final int[] WILD = {-1, -2, Integer.MIN_VALUE, Integer.MAX_VALUE, 10, 11, 12, 16, 64, 65536, 131072};

    private static long seed;

    public static void main(String[] args) throws ReflectiveOperationException {
        Method[] calls = TonguerootFamily.class.getDeclaredMethods();
        calls = Arrays.stream(calls).filter(m -> java.lang.reflect.Modifier.isPublic(m.getModifiers()))
            .sorted(Comparator.comparing(Method::getName)).toArray(Method[]::new);
        for (int run = 0; run < RUNS + FULL_RUNS; run++) {
            seed = 7919L * run + 1;
            if (!sameAnswers(run, calls)) {
                System.exit(1);
            }
        }
        System.out.println("all answers are as due");
    }

    private static int below(int bound) {
        seed = seed * 6364136223846793005L + 1442695040888963407L;
        return (int) ((seed >>> 33) % bound);
    }

    private static boolean sameAnswers(int run, Method[] calls) throws ReflectiveOperationException {
        TonguerootFamily family = new TonguerootFamily();
        PlainFamily plain = new PlainFamily();
        int alphabet = 2 + below(15);
        StringBuilder story = new StringBuilder();
        for (int call = 0; call < CALLS; call++) {
            boolean fills = run >= RUNS && call < FULL_CALLS;
            Method method = fills ? named(calls, filling(call)) : chosen(calls, call, run);
            Object[] arguments = fills ? fillingArguments(call, alphabet)
                : argumentsFor(method.getName(), method.getParameterCount(), plain, alphabet);
            String got = told(method, family, arguments);
            String want = told(PlainFamily.class.getMethod(method.getName(), method.getParameterTypes()),
                plain, arguments);
            story.append(method.getName()).append(Arrays.toString(arguments)).append(' ').append(got).append('\n');
            if (!got.equals(want)) {
                System.out.println("run " + run + ":\n" + story + "due is " + want);
                return false;
            }
        }
        return true;
    }

    private static Method chosen(Method[] calls, int call, int run) {
        String[] building = {"setSound", "word", "spell", "spell", "spell", "spell", "language", "law", "law", "law", "loan"};
        boolean builds = below(100) < (call < 200 ? 90 : run % 3 == 0 ? 20 : 3);
        String name = builds ? building[below(building.length)] : calls[below(calls.length)].getName();
        if ((name.equals("digest") || name.equals("unlaw")) && below(4) != 0) {
            name = "length";
        }
        return named(calls, name);
    }

    private static Method named(Method[] calls, String name) {
        for (Method method : calls) {
            if (method.getName().equals(name)) {
                return method;
            }
        }
        throw new AssertionError(name);
    }

    /** The later runs begin with a family to which nothing can be added: the calls by which it is filled, in order. */
    private static String filling(int call) {
        int at = call - 16;
        if (at < 0) {
            return "setSound";
        }
        if (at < 12 * 11) {
            return at % 11 == 0 ? "word" : "spell";
        }
        at -= 12 * 11;
        return at < 9 ? "language" : at < 9 + 9 * 8 ? "law" : "loan";
    }

    private static Object[] fillingArguments(int call, int alphabet) {
        int sound = below(alphabet);
        switch (filling(call)) {
            case "setSound":
                return new Object[] {call, below(64)};
            case "word":
                return new Object[] {(call - 16) / 11};
            case "spell":
                return new Object[] {sound};
            case "language":
                return new Object[] {below(call - 16 - 12 * 11 + 1)};
            case "law":
                int language = 1 + (call - 16 - 12 * 11 - 9) / 8;
                return new Object[] {language, set(alphabet), becomes(alphabet), nearby(alphabet), nearby(alphabet)};
            default:
                int to = 1 + below(9);
                return new Object[] {below(4), below(to), to, below(9)};
        }
    }

    private static String told(Method method, Object on, Object[] arguments) throws ReflectiveOperationException {
        try {
            return String.valueOf(method.invoke(on, arguments));
        } catch (InvocationTargetException thrown) {
            return Check.nameOf(thrown.getCause());
        }
    }

    private static Object[] argumentsFor(String name, int count, PlainFamily plain, int alphabet) {
        Object[] row = new Object[count];
        for (int i = 0; i < count; i++) {
            row[i] = below(60) == 0 ? WILD[below(WILD.length)] : usual(name, i, plain, alphabet);
        }
        if (name.equals("loan") && below(8) != 0 && plain.languages() > 1) {
            int to = 1 + below(plain.languages() - 1);
            row[1] = below(to);
            row[2] = to;
        }
        return row;
    }

    private static int usual(String name, int i, PlainFamily plain, int alphabet) {
        int sound = below(alphabet);
        int meaning = below(4) == 0 ? below(12) : below(5);
        int language = below(plain.languages());
        switch (name) {
            case "setSound":
                return i == 0 ? below(16) : below(below(2) == 0 ? 4 : 64);
            case "word":
                return below(3) == 0 ? below(12) : meaning;
            case "spell":
                return sound;
            case "law":
                return new int[] {language, set(alphabet), becomes(alphabet), nearby(alphabet), nearby(alphabet)}[i];
            case "loan":
                return new int[] {below(3), language, language, below(9)}[i];
            case "soundAt":
            case "recalledAt":
                return new int[] {language, meaning, below(below(2) == 0 ? 4 : 11)}[i];
            case "cost":
            case "columns":
            case "columnAt":
                return new int[] {meaning, language, below(plain.languages()), below(below(2) == 0 ? 8 : 12)}[i];
            case "answers":
            case "mainAnswer":
                return i < 2 ? language : below(8) == 0 ? -1 : sound;
            case "swapped":
            case "without":
                return i == 0 ? language : below(below(2) == 0 ? 3 : 9);
            case "withoutLoan":
                return below(12);
            default:
                return name.equals("common") || name.equals("far") || i == 0 ? language : meaning;
        }
    }

    private static int set(int alphabet) {
        return 1 << below(alphabet) | 1 << below(alphabet) | (below(3) == 0 ? 65535 & below(65536) : 0);
    }

    private static int nearby(int alphabet) {
        int kind = below(4);
        return kind == 0 ? 0 : kind == 1 ? 65536 | set(alphabet) : kind == 2 ? 65536 : set(alphabet);
    }

    private static int becomes(int alphabet) {
        int kind = below(3);
        return kind == 0 ? -1 : kind == 1 ? below(alphabet) : 16 + below(6);
    }
}
