import java.lang.reflect.InvocationTargetException;
import java.lang.reflect.Method;
import java.util.ArrayList;
import java.util.Comparator;
import java.util.List;
import java.util.function.IntSupplier;

/** What the tests of single sentences share: gardens, what is due, what a refused call must leave as it was. */
abstract class Bounds {
    static final int BAD = -1, FULL = -2, FINDING = -3, STATE = -4, SPENT = -6, NONE = -9;
    static final int NOTHING = 1, BEYOND = 2, UNLIKE = 3, NOUGHT = 4, SIZE = 5;
    static final int LEAST = Integer.MIN_VALUE, MOST = Integer.MAX_VALUE;
    static final int[] NO_ROWS = {-1, 6, LEAST, MOST};
    static final int[] NO_TEXTS = {-1, 4, LEAST, MOST};
    static final int[] NO_PODS = {-1, 9, LEAST, MOST};
    static final int[] NO_PLACES = {-1, 3, LEAST, MOST};
    /** None of a garden of two plants. */
    static final int[] NO_PLANTS = {-1, 2, 6, LEAST, MOST};

    private static String sentence = "";
    private static int wrong = 0;

    interface Call {
        int on(BeanVoices x);
    }

    interface CallBy {
        int on(BeanVoices x, int number);
    }

    // ---- what is due

    static void due(long got, long want) {
        if (got != want) {
            say("answered " + got + ", due is " + want);
        }
    }

    private static void say(String what) {
        wrong++;
        System.out.println(sentence + ": " + place() + ": " + what);
    }

    private static String place() {
        return StackWalker.getInstance().walk(frames -> frames
                .filter(f -> !f.getClassName().equals("Bounds"))
                .findFirst().map(f -> f.getFileName() + ":" + f.getLineNumber()).orElse("?"));
    }

    /** A call that answers 1 and tells the rest by asked(). */
    static void tells(BeanVoices x, int answer, int asked) {
        due(answer, 1);
        due(x.asked(), asked);
    }

    /** A call that answers something of its own and tells more by asked(). */
    static void answers(BeanVoices x, int answer, int want, int asked) {
        due(answer, want);
        due(x.asked(), asked);
    }

    /** A call that answers 1 and tells the rest by upper(), lower(). */
    static void ratio(BeanVoices x, int answer, long upper, long lower) {
        due(answer, 1);
        due(x.upper(), upper);
        due(x.lower(), lower);
    }

    static void plantIs(BeanVoices x, int i, int what, int want) {
        tells(x, x.plant(i, what), want);
    }

    /** The ROW is there, and it is these numbers and no more. */
    static void rowIs(BeanVoices x, int r, int... values) {
        for (int i = 0; i < values.length; i++) {
            tells(x, x.at(r, i), values[i]);
        }
        due(x.at(r, values.length), FINDING);
        due(x.finding(), BEYOND);
    }

    static void counts(BeanVoices x, int... values) {
        for (int what = 0; what < values.length; what++) {
            due(x.count(what), values[what]);
        }
    }

    // ---- what is refused

    /** All that can be seen without changing anything, but for finding(), findings(). */
    private static long[] seen(BeanVoices x) {
        return new long[] {x.digest(), x.asked(), x.upper(), x.lower()};
    }

    private static long[] findings(BeanVoices x) {
        long[] all = new long[6];
        all[0] = x.finding();
        for (int f = 1; f <= 5; f++) {
            all[f] = x.findings(f);
        }
        return all;
    }

    private static void same(String what, long[] got, long[] want) {
        for (int i = 0; i < want.length; i++) {
            if (got[i] != want[i]) {
                say("a refused call changed " + what + " " + i + ", which was " + want[i] + ", to " + got[i]);
            }
        }
    }

    static void refuses(BeanVoices x, int code, IntSupplier... calls) {
        for (IntSupplier call : calls) {
            long[] seen = seen(x);
            long[] findings = findings(x);
            due(call.getAsInt(), code);
            same("finding", findings(x), findings);
            same("what is seen", seen(x), seen);
        }
    }

    /** BAD for each of these numbers. */
    static void bad(BeanVoices x, int[] numbers, CallBy call) {
        for (int number : numbers) {
            refuses(x, BAD, () -> call.on(x, number));
        }
    }

    static void finds(BeanVoices x, int finding, IntSupplier... calls) {
        for (IntSupplier call : calls) {
            long[] seen = seen(x);
            long[] findings = findings(x);
            due(call.getAsInt(), FINDING);
            findings[0] = finding;
            findings[finding]++;
            same("finding", findings(x), findings);
            same("what is seen", seen(x), seen);
        }
    }

    // ---- gardens and rows to test with

    static void write(BeanVoices x, int t, String signs) {
        due(x.text(t, signs.length()), signs.length());
        for (int i = 0; i < signs.length(); i++) {
            x.put(t, i, signs.charAt(i));
        }
    }

    static BeanVoices written(String signs) {
        BeanVoices x = new BeanVoices();
        write(x, 0, signs);
        return x;
    }

    /** A garden by TEXT 3; the other TEXTS are missing. */
    static BeanVoices sown(String signs) {
        BeanVoices x = new BeanVoices();
        write(x, 3, signs);
        due(x.garden(3), signs.replace(" ", "").length() / 4);
        return x;
    }

    static BeanVoices sown(String signs, int days) {
        BeanVoices x = sown(signs);
        days(x, days);
        return x;
    }

    static void days(BeanVoices x, int n) {
        for (int i = 0; i < n; i++) {
            x.day();
        }
    }

    static void waters(BeanVoices x, int i, int n) {
        for (int k = 0; k < n; k++) {
            x.water(i);
        }
    }

    static void picks(BeanVoices x, int i, int... words) {
        for (int word : words) {
            due(x.pick(i), word);
        }
    }

    static void lay(BeanVoices x, int r, int... values) {
        due(x.row(r, values.length), values.length);
        for (int i = 0; i < values.length; i++) {
            x.lay(r, i, values[i]);
        }
    }

    static String blanks(int n) {
        return " ".repeat(n);
    }

    // ---- running them

    static List<Method> testsOf(Class<?> tests) {
        List<Method> all = new ArrayList<>();
        for (Method m : tests.getDeclaredMethods()) {
            if (m.isAnnotationPresent(Bound.class)) {
                all.add(m);
            }
        }
        all.sort(Comparator.comparing(Method::getName));
        return all;
    }

    /** Each test by itself, so that one that throws keeps no other from running. */
    static void runAll(Class<?> tests) {
        List<Method> all = testsOf(tests);
        for (Method m : all) {
            Bound bound = m.getAnnotation(Bound.class);
            sentence = bound.at() + " '" + bound.says() + "'";
            try {
                m.setAccessible(true);
                m.invoke(null);
            } catch (InvocationTargetException e) {
                say(m.getName() + " threw " + e.getCause());
            } catch (IllegalAccessException e) {
                say(m.getName() + " can't be run");
            }
        }
        System.out.println(tests.getName() + ": " + all.size() + " sentences, "
                + (wrong == 0 ? "all answers are as due" : wrong + " answers are not as due"));
        if (wrong != 0 || all.isEmpty()) {
            System.exit(1);
        }
    }
}
