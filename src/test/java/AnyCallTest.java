import java.lang.reflect.InvocationTargetException;
import java.lang.reflect.Method;
import java.lang.reflect.Modifier;
import java.util.ArrayList;
import java.util.Arrays;
import java.util.Comparator;
import java.util.List;

/** Any call with any arguments throws only what the document lists for it, and that by a statement of the class. */
public final class AnyCallTest {
    private static final int[] NUMBERS = {0, 0, 0, 1, 1, 2, 3, 4, 5, 7, 8, 9, 15, 16, 17, 63, 64, 99, 100, 101, 9999,
        10000, -1, -2, 1 << 16, Integer.MAX_VALUE, Integer.MIN_VALUE};
    private static final char[] SIGNS = {'l', 'f', 'c', 'b', 'x', 0, 65535};
    private static final int HOUSES = 60;
    private static final int CALLS = 4000;
    private long state = 7;

    private AnyCallTest() {
    }

    public static void main(String[] args) throws IllegalAccessException {
        Check check = new Check("AnyCallTest");
        new AnyCallTest().run(check);
        check.end();
    }

    private int below(int bound) {
        state = state * 6364136223846793005L + 1442695040888963407L;
        return (int) ((state >>> 33) % bound);
    }

    private void run(Check check) throws IllegalAccessException {
        List<Method> face = new ArrayList<>();
        for (Method method : Writeback.class.getDeclaredMethods()) {
            if (Modifier.isPublic(method.getModifiers())) {
                face.add(method);
            }
        }
        face.sort(Comparator.comparing(Method::getName));
        for (int i = 0; i < HOUSES; i++) {
            Writeback house = new Writeback();
            for (int k = 0; k < CALLS; k++) {
                call(check, house, face.get(below(face.size())));
            }
            check.same("sound", house.isSound(), true);
        }
    }

    private void call(Check check, Writeback house, Method method) throws IllegalAccessException {
        Object[] arguments = new Object[method.getParameterCount()];
        for (int i = 0; i < arguments.length; i++) {
            if (method.getParameterTypes()[i] == char.class) {
                arguments[i] = SIGNS[below(SIGNS.length)];
            } else {
                arguments[i] = NUMBERS[below(below(2) == 0 ? NUMBERS.length : 10)];
            }
        }
        try {
            method.invoke(house, arguments);
        } catch (InvocationTargetException e) {
            Throwable thrown = e.getCause();
            boolean listed = Arrays.asList(method.getExceptionTypes()).contains(thrown.getClass());
            boolean own = thrown.getStackTrace()[0].getClassName().equals("Writeback");
            if (!listed || !own || "/ by zero".equals(thrown.getMessage())) {
                check.report(method.getName() + Arrays.toString(arguments) + " threw " + thrown);
            }
        }
    }
}
