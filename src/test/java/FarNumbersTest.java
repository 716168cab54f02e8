import java.lang.reflect.InvocationTargetException;
import java.lang.reflect.Method;
import java.lang.reflect.Modifier;
import java.util.List;
import java.util.function.Supplier;

/** LANGUAGE.md, 7: no call throws, for any arguments in any state; what is answered then is no lower than the document has it. */
public final class FarNumbersTest {
    private static final Check CHECK = new Check("FarNumbersTest");
    private static final int[] NUMBERS = {Integer.MIN_VALUE, Integer.MIN_VALUE + 1, -1, 0, 1, 4, 6, 41, 99, Integer.MAX_VALUE - 1, Integer.MAX_VALUE};

    public static void main(String[] args) throws IllegalAccessException {
        List<Supplier<StepCalls>> given = List.of(StepCalls::new, Given::part, Given::full);
        for (Method m : StepCalls.class.getDeclaredMethods()) {
            if (Modifier.isPublic(m.getModifiers())) {
                for (Supplier<StepCalls> one : given) {
                    all(m, one);
                }
            }
        }
        CHECK.finish();
    }

    private static void all(Method m, Supplier<StepCalls> given) throws IllegalAccessException {
        int choices = 1;
        for (int i = 0; i < m.getParameterCount(); i++) {
            choices *= NUMBERS.length;
        }
        StepCalls x = given.get();
        for (int choice = 0; choice < choices; choice++) {
            // so that an object is asked some 512 times at most
            x = choice % 150 == 149 ? given.get() : x;
            call(m, x, choice);
        }
    }

    private static void call(Method m, StepCalls x, int choice) throws IllegalAccessException {
        Object[] values = new Object[m.getParameterCount()];
        int left = choice;
        for (int i = 0; i < values.length; i++) {
            int v = NUMBERS[left % NUMBERS.length];
            left /= NUMBERS.length;
            values[i] = m.getParameterTypes()[i] == boolean.class ? (Object) (v < 0) : (Object) v;
        }
        try {
            long answer = ((Number) m.invoke(x, values)).longValue();
            int least = m.getName().equals("text") ? -170 : m.getName().equals("read") ? -39 : m.getName().matches("lay|sheet") ? -14 : -4;
            CHECK.due(m.getName() + " answers " + answer, answer < least ? 1 : 0, 0);
        } catch (InvocationTargetException thrown) {
            CHECK.due(m + " by choice " + choice + " throws " + thrown.getCause(), 1, 0);
        }
    }
}
