import java.lang.reflect.InvocationTargetException;
import java.lang.reflect.Method;
import java.util.ArrayList;
import java.util.Comparator;
import java.util.List;

/** Runs the tests of a class, counts the answers that are not the ones that are due, and prints them. */
final class Checks {
    static final Class<IllegalArgumentException> ARGUMENT = IllegalArgumentException.class;
    static final Class<IllegalStateException> STATE = IllegalStateException.class;
    static final Class<IndexOutOfBoundsException> INDEX = IndexOutOfBoundsException.class;

    private static final int MOST_PRINTED = 50;

    private String test = "";
    private int made = 0;
    private int wrong = 0;

    /** The class's tests: its methods that say what they hold, in the document's order. */
    static List<Method> testsOf(Class<?> tests) {
        List<Method> found = new ArrayList<>();
        for (Method method : tests.getDeclaredMethods()) {
            if (method.isAnnotationPresent(Holds.class)) {
                found.add(method);
            }
        }
        found.sort(Comparator.comparing((Method m) -> rank(m.getAnnotation(Holds.class).at()))
            .thenComparing(Method::getName));
        return found;
    }

    private static int rank(String part) {
        String digits = part.replaceAll("[^0-9]", "");
        return digits.isEmpty() ? 0 : Integer.parseInt(digits);
    }

    void run(Class<?> tests) {
        for (Method method : testsOf(tests)) {
            Holds holds = method.getAnnotation(Holds.class);
            int before = wrong;
            test = method.getName() + ": ";
            call(method);
            System.out.println((wrong == before ? "  ok      " : "  FAILED  ")
                + holds.at() + ", " + method.getName() + ": " + holds.says());
        }
        end(tests.getSimpleName());
    }

    private void call(Method method) {
        int before = made;
        try {
            method.setAccessible(true);
            method.invoke(null);
        } catch (InvocationTargetException e) {
            fault("ended by " + e.getCause());
            e.getCause().printStackTrace(System.out);
        } catch (IllegalAccessException e) {
            fault("cannot be called: " + e);
        }
        if (made == before) {
            fault("checks nothing");
        }
    }

    void due(String what, long got, long want) {
        made++;
        if (got != want) {
            fault(what + " answered " + got + ", due is " + want);
        }
    }

    void due(String what, double got, double want) {
        made++;
        if (Double.compare(got, want) != 0) {
            fault(what + " answered " + got + ", due is " + want);
        }
    }

    void isTrue(String what, boolean held) {
        made++;
        if (!held) {
            fault(what);
        }
    }

    /** Each such market throws exactly this class, not one below it, and goes on as if nothing had been called. */
    void refused(String what, Script script, Class<? extends RuntimeException> kind, Call call) {
        throwsJust(what, script.make(), kind, call);
        changesNothing(what, script, call);
    }

    void throwsJust(String what, BellHush market, Class<? extends RuntimeException> kind, Call call) {
        made++;
        try {
            Object got = call.on(market);
            fault(what + " answered " + got + ", due is " + kind.getSimpleName());
        } catch (RuntimeException e) {
            if (e.getClass() != kind) {
                fault(what + " threw " + e + ", due is " + kind.getSimpleName());
            }
        }
    }

    void changesNothing(String what, Script script, Call call) {
        made++;
        List<String> changed = script.changedBy(call);
        if (!changed.isEmpty()) {
            fault("behind " + what + " " + changed.size() + " answers are others: " + changed.get(0));
        }
    }

    void end(String name) {
        System.out.println(name + ": " + made + " checks, " + wrong + " wrong");
        if (wrong != 0) {
            System.exit(1);
        }
    }

    private void fault(String text) {
        wrong++;
        if (wrong <= MOST_PRINTED) {
            System.out.println(test + text);
        }
    }
}
