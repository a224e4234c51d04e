import java.lang.reflect.InvocationTargetException;
import java.lang.reflect.Method;
import java.lang.reflect.Modifier;

/**
 * Each call with all numbers at and around the document's bounds, and the least and the greatest ints, in shops of
 * several states: nothing is thrown, the model answers the same, and what is refused changes nothing.
 */
public final class ExtremesTest {
    private static final int LOW = Integer.MIN_VALUE, HIGH = Integer.MAX_VALUE;
    private static final int[] MANY = {LOW, LOW + 1, -1001, -41, -10, -9, -8, -6, -2, -1, 0, 1, 2, 3, 4, 5, 6, 7, 8, 9,
        10, 19, 20, 21, 39, 40, 41, 59, 60, 61, 127, 128, 255, 256, 998, 999, 1000, 9998, 9999, 10000, HIGH - 1, HIGH};
    private static final int[] SOME = {LOW, -9, -1, 0, 1, 2, 3, 4, 5, 6, 998, 999, 1000, HIGH};
    private static final int[] FEW = {LOW, -1, 0, 1, 4, 5, 6, 18, HIGH};
    /** An object is used for at most 512 calls; some 150 of them prepare it. */
    private static final int CALLS = 300;

    private final String signs;
    private final int turns;
    private TheUsual x;
    private Model y;
    private int calls;

    private ExtremesTest(String signs, int turns) {
        this.signs = signs;
        this.turns = turns;
    }

    public static void main(String[] args) throws ReflectiveOperationException {
        ExtremesTest[] states = {new ExtremesTest("", 0), new ExtremesTest("y33559", 0),
            new ExtremesTest("r00011 s01232 c10003 h11345 y00455 f22501", 7),
            new ExtremesTest("f00051 y00122", 59), new ExtremesTest("h00051 c00122 s00122", 60)};
        for (ExtremesTest state : states) {
            for (Method method : TheUsual.class.getDeclaredMethods()) {
                if (Modifier.isPublic(method.getModifiers()) && method.getParameterCount() > 0) {
                    state.sweep(method);
                }
            }
        }
        Check.end();
    }

    private void sweep(Method method) throws ReflectiveOperationException {
        Method second = Model.class.getDeclaredMethod(method.getName(), method.getParameterTypes());
        int places = method.getParameterCount();
        int[] numbers = places <= 3 ? MANY : places == 4 ? SOME : FEW;
        int all = 1;
        for (int i = 0; i < places; i++) {
            all *= numbers.length;
        }
        prepare();
        for (int which = 0; which < all; which++) {
            if (calls >= CALLS) {
                prepare();
            }
            Object[] told = new Object[places];
            int rest = which;
            for (int i = 0; i < places; i++) {
                told[i] = numbers[rest % numbers.length];
                rest /= numbers.length;
            }
            call(method, second, told);
        }
        Check.due(method.getName() + ": digest()", x.digest(), y.digest());
    }

    private void call(Method method, Method second, Object[] told) throws ReflectiveOperationException {
        StringBuilder call = new StringBuilder(method.getName());
        for (Object number : told) {
            call.append(' ').append(number);
        }
        call.append(" after ").append(turns).append(" turns");
        long ahead = x.digest();
        int got;
        try {
            got = (int) method.invoke(x, told);
        } catch (InvocationTargetException thrown) {
            Check.due(call + " threw " + thrown.getCause(), 1, 0);
            prepare();
            return;
        }
        Check.due(call.toString(), got, (int) second.invoke(y, told));
        Check.due(call + ": asked()", x.asked(), y.asked);
        Check.due(call + ": upper()", x.upper(), y.upper);
        Check.due(call + ": lower()", x.lower(), y.lower);
        Check.due(call + ": finding()", x.finding(), y.finding());
        if (got < 0 && got != TheUsual.NONE) {
            Check.due(call + ": refused, digest()", x.digest(), ahead);
        }
        calls += 7;
    }

    private void prepare() {
        x = new TheUsual();
        y = new Model();
        calls = 0;
        text(0, signs);
        text(1, "r0001");
        row(0, 0, 0, 1, 5);
        row(1);
        row(2, 0, 0, 1);
        row(3, new int[18]);
        row(4, HIGH, LOW);
        x.shop(0);
        y.shop(0);
        for (int i = 0; i < turns; i++) {
            turn(i);
        }
    }

    private void turn(int i) {
        if (i == turns / 2) {
            x.keep(1);
            y.keep(1);
        }
        int who = i % y.items.size();
        int thing = i % 7 == 6 ? TheUsual.NONE : i % 7;
        int got = i % 5 == 4 ? x.morning() : x.serve(who, thing);
        Check.due("a turn", got, i % 5 == 4 ? y.morning() : y.serve(who, thing));
    }

    private void text(int t, String told) {
        x.text(t, told.length());
        y.text(t, told.length());
        for (int i = 0; i < told.length(); i++) {
            x.put(t, i, told.charAt(i));
            y.put(t, i, told.charAt(i));
        }
    }

    private void row(int r, int... ints) {
        x.row(r, ints.length);
        y.row(r, ints.length);
        for (int i = 0; i < ints.length; i++) {
            x.lay(r, i, ints[i]);
            y.lay(r, i, ints[i]);
        }
    }
}
