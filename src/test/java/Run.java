import java.lang.reflect.InvocationTargetException;
import java.lang.reflect.Method;
import java.lang.reflect.Modifier;
import java.util.HashMap;
import java.util.Map;
import java.util.NoSuchElementException;

/** One object of the class, asked by the names of its calls, so that each answer is told with the call that got it. */
final class Run {
    /** What an object may be used for by the document. */
    static final int MOST_CALLS = 512;
    private static final Map<String, Method> CALLS = new HashMap<>();

    static {
        for (Method m : HorizonDues.class.getDeclaredMethods()) {
            if (Modifier.isPublic(m.getModifiers())) {
                CALLS.put(m.getName(), m);
            }
        }
    }

    private final Check check;
    private final HorizonDues object = new HorizonDues();
    private int calls = 0;

    Run(Check check) {
        this.check = check;
    }

    /** The answer: 1 or 0 of a boolean, 0 of nothing, or which of the document's exceptions came instead. */
    long call(String name, int... numbers) {
        Object[] args = new Object[numbers.length];
        for (int i = 0; i < args.length; i++) {
            args[i] = numbers[i];
        }
        count(1);
        try {
            Object got = CALLS.get(name).invoke(object, args);
            return got == null ? 0 : got instanceof Boolean b ? Check.of(b) : ((Number) got).longValue();
        } catch (InvocationTargetException e) {
            if (e.getCause().getClass() == NoSuchElementException.class) {
                return Check.NO_SUCH;
            }
            if (e.getCause().getClass() == IllegalArgumentException.class) {
                return Check.ILLEGAL;
            }
            throw new IllegalStateException(shown(name, numbers) + " threw what no call may throw", e.getCause());
        } catch (IllegalAccessException e) {
            throw new IllegalStateException(e);
        }
    }

    private void count(int more) {
        calls += more;
        if (calls > MOST_CALLS) {
            throw new IllegalStateException("a test asks one object too much");
        }
    }

    static String shown(String name, int... numbers) {
        StringBuilder s = new StringBuilder(name).append('(');
        for (int i = 0; i < numbers.length; i++) {
            s.append(i == 0 ? "" : ", ").append(numbers[i]);
        }
        return s.append(')').toString();
    }

    void is(long want, String name, int... numbers) {
        check.same(shown(name, numbers), want, call(name, numbers));
    }

    void noSuch(String name, int... numbers) {
        is(Check.NO_SUCH, name, numbers);
    }

    void illegal(String name, int... numbers) {
        is(Check.ILLEGAL, name, numbers);
    }

    int callsLeft() {
        return MOST_CALLS - calls;
    }

    void put(String text) {
        count((text.length() + 19) / 20);
        Check.put(object, text);
    }

    long told(String text) {
        put(text);
        return call("duchy", text.length());
    }

    /** A text that the test itself needs, without a fault. */
    Run with(String text) {
        if (told(text) != 0) {
            throw new IllegalStateException("a test's own text has a fault at " + call("fault") + ": " + text);
        }
        return this;
    }
}
