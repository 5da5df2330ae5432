import java.lang.reflect.InvocationTargetException;
import java.lang.reflect.Method;
import java.lang.reflect.Modifier;
import java.util.NoSuchElementException;

/**
 * Every method in every state with odd arguments: nothing but the NoSuchElementException of glide and ice is thrown,
 * and a call that answers false changes nothing. Each call has an object of its own.
 */
public final class AnyArgumentsTest {
    private static final int[] ODD = {Integer.MIN_VALUE, -1, 0, 1, 2, 5, 16, 40, 200, Integer.MAX_VALUE};
    /** With five parameters all that can be combined of the former would be too many. */
    private static final int[] FEW = {Integer.MIN_VALUE, -1, 0, 1, 9, Integer.MAX_VALUE};

    public static void main(String[] args) throws IllegalAccessException {
        for (States state : States.values()) {
            for (Method method : IceRun.class.getDeclaredMethods()) {
                if (Modifier.isPublic(method.getModifiers())) {
                    callAll(state, method);
                }
            }
        }
        Due.done();
    }

    private static void callAll(States state, Method method) throws IllegalAccessException {
        int many = method.getParameterCount();
        int[] values = many > 3 ? FEW : ODD;
        int combinations = 1;
        for (int i = 0; i < many; i++) {
            combinations *= values.length;
        }
        for (int c = 0; c < combinations; c++) {
            Object[] with = new Object[many];
            for (int i = 0, rest = c; i < many; i++, rest /= values.length) {
                with[i] = values[rest % values.length];
            }
            callOne(state, method, with);
        }
    }

    private static void callOne(States state, Method method, Object[] with) throws IllegalAccessException {
        IceRun x = state.make();
        int[] before = look(x);
        Object answer = null;
        try {
            answer = method.invoke(x, with);
        } catch (InvocationTargetException e) {
            boolean named = method.getName().equals("glide") || method.getName().equals("ice");
            boolean due = named && e.getCause().getClass() == NoSuchElementException.class;
            Due.yes(tell(state, method, with) + ": throws as the document says, not " + e.getCause(), due);
        }
        if (answer == null || Boolean.FALSE.equals(answer)) {
            int[] behind = look(x);
            for (int i = 0; i < before.length; i++) {
                Due.is(tell(state, method, with) + ": look " + i, before[i], behind[i]);
            }
        }
    }

    private static int[] look(IceRun x) {
        int[] seen = new int[20];
        for (int i = 0; i < 11; i++) {
            seen[i] = x.count(i);
        }
        for (int i = 0; i < 5; i++) {
            seen[11 + i] = x.cell(0, i);
        }
        seen[16] = x.standard();
        seen[17] = x.place();
        seen[18] = x.order(0);
        seen[19] = x.points(1, 1);
        return seen;
    }

    private static String tell(States state, Method method, Object[] with) {
        return method.getName() + java.util.Arrays.toString(with) + " in " + state;
    }
}
