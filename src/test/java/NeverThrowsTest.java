import java.lang.reflect.InvocationTargetException;
import java.lang.reflect.Method;
import java.lang.reflect.Modifier;
import java.util.ArrayList;
import java.util.Arrays;
import java.util.List;

/** LANGUAGE.md, rule 7: no call ever throws, for odd arguments in odd states. */
public final class NeverThrowsTest {
    private static final Due DUE = new Due("NeverThrowsTest");
    private static final int[] ODD = {Integer.MIN_VALUE, -36000, -1, 0, 1, 2, 62, 720, 1100, 12000, 35999, 400000, Integer.MAX_VALUE};
    private static final int CALLS = 400;

    private interface State {
        void make(EclipseHouse x);
    }

    public static void main(String[] args) throws IllegalAccessException {
        State[] states = {x -> { }, NeverThrowsTest::fullTape, NeverThrowsTest::fullHouse, NeverThrowsTest::faulty};
        for (State state : states) {
            for (Method m : EclipseHouse.class.getDeclaredMethods()) {
                if (Modifier.isPublic(m.getModifiers())) {
                    callWithAll(state, m);
                }
            }
        }
        DUE.finish();
    }

    private static void fullTape(EclipseHouse x) {
        for (int i = 0; i < 10; i++) {
            x.feed(0x61616161, 0x61616161, 0x61616161, 0x61616161, -1);
        }
    }

    private static void fullHouse(EclipseHouse x) {
        x.tables(35999, 35999, 35999);
        for (int i = 0; i < 12; i++) {
            Texts.reign(x, "r" + (char) ('a' + i), i % 3, 50 * i);
        }
        for (int i = 0; i < 8; i++) {
            Texts.record(x, "sun year " + 111 * i + " of ra month 13 day 31 hour 23 in even;", i % 2 == 0 ? -720 : 720);
        }
        fullTape(x);
    }

    private static void faulty(EclipseHouse x) {
        Texts.record(x, "sun year 1 of zz in even;", 0);
        Texts.put(x, "moon month 13 in");
    }

    private static void callWithAll(State state, Method m) throws IllegalAccessException {
        EclipseHouse x = null;
        int calls = CALLS;
        for (Object[] arguments : tuples(m.getParameterCount())) {
            if (calls >= CALLS) {
                // An object is promised for 512 calls, and its state takes some of them.
                x = new EclipseHouse();
                state.make(x);
                calls = 0;
            }
            calls++;
            DUE.is(m.getName() + Arrays.toString(arguments) + " throws", throwsIt(x, m, arguments), false);
        }
    }

    private static boolean throwsIt(EclipseHouse x, Method m, Object[] arguments) throws IllegalAccessException {
        try {
            m.invoke(x, arguments);
            return false;
        } catch (InvocationTargetException e) {
            return true;
        }
    }

    /** All tuples of odd numbers; of more than three, those whose later numbers follow the third. */
    private static List<Object[]> tuples(int length) {
        List<Object[]> tuples = new ArrayList<>();
        int free = Math.min(length, 3);
        int count = (int) Math.pow(ODD.length, free);
        for (int n = 0; n < count; n++) {
            Object[] tuple = new Object[length];
            int rest = n;
            for (int i = 0; i < length; i++) {
                tuple[i] = ODD[i < free ? rest % ODD.length : (n + i) % ODD.length];
                rest /= ODD.length;
            }
            tuples.add(tuple);
        }
        return tuples;
    }
}
