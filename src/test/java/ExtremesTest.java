import java.lang.reflect.InvocationTargetException;
import java.lang.reflect.Method;
import java.lang.reflect.Modifier;

/** Every call with every choice of edge numbers, on a few charts: none throws, all end. */
final class ExtremesTest {
    private static final int[] EDGES = {Integer.MIN_VALUE, -1, 0, 1, 5, 16, 63, Integer.MAX_VALUE};
    // With status() and bottom() behind each call that stays below 512.
    private static final int CALLS_A_CHART = 160;

    private final Expect expect = new Expect();
    private FreckleChart chart;
    private int calls;

    public static void main(String[] args) throws IllegalAccessException {
        ExtremesTest t = new ExtremesTest();
        for (int state = 0; state < 3; state++) {
            for (Method m : FreckleChart.class.getDeclaredMethods()) {
                if (Modifier.isPublic(m.getModifiers())) {
                    t.tryAll(m, state);
                }
            }
        }
        t.expect.end("ExtremesTest");
    }

    private static FreckleChart make(int state) {
        if (state == 0) {
            return new FreckleChart();
        }
        if (state == 1) {
            FreckleChart x = Texts.chart("coast 6 by 5; rock 29 deep 0; rock 0 deep 9;"
                    + "cousin a at 0 wide 6 high 5 tan 9; cousin b at 29 wide 1 high 1 veiled;",
                    "loop 99; any; loop 9; sail a 0 29 1; ink b 29; wash b; end; end;");
            x.tray(0, 0, 60);
            x.tray(1, 0, 0);
            x.mark();
            return x;
        }
        FreckleChart x = Texts.chart("coast 1 by 1;");
        for (int i = 0; i < 6; i++) {
            x.born(0, 1, 1);
        }
        x.wreck(0, 0);
        x.mark();
        x.mark();
        x.mark();
        return x;
    }

    private void tryAll(Method m, int state) throws IllegalAccessException {
        Class<?>[] types = m.getParameterTypes();
        int choices = 1;
        for (int i = 0; i < types.length; i++) {
            choices *= EDGES.length;
        }
        chart = make(state);
        calls = 0;
        for (int choice = 0; choice < choices; choice++) {
            if (calls == CALLS_A_CHART) {
                chart = make(state);
                calls = 0;
            }
            Object[] arguments = new Object[types.length];
            int rest = choice;
            for (int i = 0; i < types.length; i++) {
                int edge = EDGES[rest % EDGES.length];
                rest /= EDGES.length;
                arguments[i] = types[i] == long.class ? (Object) (long) edge
                        : types[i] == boolean.class ? (Object) (edge > 0) : (Object) edge;
            }
            call(m, arguments);
        }
    }

    private void call(Method m, Object[] arguments) throws IllegalAccessException {
        calls++;
        try {
            m.invoke(chart, arguments);
        } catch (InvocationTargetException thrown) {
            expect.fails(m.getName() + java.util.Arrays.toString(arguments) + " threw "
                    + thrown.getCause(), true);
        }
        int status = chart.status();
        expect.holds("STATUS of " + m.getName() + " is one of the document's: " + status,
                status >= 0 && status <= 11);
        expect.holds("bottom() is above 0", chart.bottom() > 0);
    }
}
