import java.lang.reflect.InvocationTargetException;
import java.lang.reflect.Method;
import java.lang.reflect.Modifier;
import java.util.Arrays;
import java.util.Comparator;

/** Runs tests of the document's edges, one sentence each, and holds refused halls against their twins. */
final class Edges {
    /** Calls that lead up to an edge. */
    interface Steps {
        void on(RollHall hall);
    }

    /** The call at the edge. */
    interface Call {
        long on(RollHall hall);
    }

    private static final Due DUE = new Due();
    private static String edge = "";

    private Edges() {
    }

    /** Each static method without parameters, but for main, is a test: none can be forgotten. */
    static void run(Class<?> tests) throws ReflectiveOperationException {
        Method[] methods = tests.getDeclaredMethods();
        Arrays.sort(methods, Comparator.comparing(Method::getName));
        for (Method m : methods) {
            if (Modifier.isStatic(m.getModifiers()) && m.getParameterCount() == 0 && !m.isSynthetic()
                && m.getReturnType() == void.class) {
                m.setAccessible(true);
                edge = m.getName();
                call(m);
            }
        }
        DUE.end();
    }

    private static void call(Method m) throws ReflectiveOperationException {
        try {
            m.invoke(null);
        } catch (InvocationTargetException thrown) {
            DUE.is(edge + " threw " + thrown.getCause(), 1, 0);
        }
    }

    static void due(String call, long got, long want) {
        DUE.is(edge + ": " + call, got, want);
    }

    /**
     * A REFUSAL: the call answers what is due, and behind it all can be seen as in a twin that was
     * led there by the same steps but was never asked.
     */
    static void refused(String name, Steps steps, Call call, int want) {
        RollHall asked = new RollHall();
        RollHall twin = new RollHall();
        steps.on(asked);
        steps.on(twin);
        due(name, call.on(asked), want);
        sameLooks(name, asked, twin);
    }

    /** Steps that must leave no trace: behind them all can be seen as in a twin without them. */
    static void noTrace(String name, Steps steps, Steps looks) {
        RollHall looked = new RollHall();
        RollHall twin = new RollHall();
        steps.on(looked);
        steps.on(twin);
        looks.on(looked);
        sameLooks(name, looked, twin);
    }

    private static void sameLooks(String name, RollHall hall, RollHall twin) {
        int[] seen = Looks.at(hall);
        int[] due = Looks.at(twin);
        due(name + ", looks behind it", seen.length, due.length);
        for (int i = 0; i < Math.min(seen.length, due.length); i++) {
            due(name + ", look " + i + " behind it", seen[i], due[i]);
        }
    }
}
