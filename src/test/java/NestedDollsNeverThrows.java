import java.lang.reflect.InvocationTargetException;
import java.lang.reflect.Method;
import java.util.Arrays;
import java.util.List;
import java.util.function.Supplier;

/** Every call with numbers from the ends of int and from beside the document's bounds: none of them throws. */
public final class NestedDollsNeverThrows extends Sentences {
    private static final Integer[] NUMBERS = {LOW, LOW + 1, -1, 0, 2, 4, 17, 60, FAR - 1, FAR};
    /** Fewer than 512, as what an object does later is free; those that make it ready leave room for these. */
    private static final int CALLS_OF_ONE = 400;

    public static void main(String[] args) throws IllegalAccessException {
        says("LANGUAGE.md, rule 7", "No call may ever throw or fail to end, for any arguments in any state");
        List<Supplier<NestedDolls>> states = List.of(Sentences::none, Sentences::busy, () -> of("n;s98", 0));
        for (Supplier<NestedDolls> made : states) {
            for (Method method : NestedDolls.class.getDeclaredMethods()) {
                if (java.lang.reflect.Modifier.isPublic(method.getModifiers())) {
                    due(method.getName() + " throws", thrown(method, made), 0);
                }
            }
        }
        end();
    }

    private static int thrown(Method method, Supplier<NestedDolls> made) throws IllegalAccessException {
        int thrown = 0;
        int all = (int) Math.pow(NUMBERS.length, method.getParameterCount());
        NestedDolls x = made.get();
        for (int call = 0; call < all; call++) {
            if (call % CALLS_OF_ONE == CALLS_OF_ONE - 1) {
                x = made.get();
            }
            Object[] numbers = new Object[method.getParameterCount()];
            for (int p = 0, rest = call; p < numbers.length; p++, rest /= NUMBERS.length) {
                numbers[p] = NUMBERS[rest % NUMBERS.length];
            }
            try {
                method.invoke(x, numbers);
            } catch (InvocationTargetException e) {
                thrown++;
                System.out.println(method.getName() + Arrays.toString(numbers) + " threw " + e.getCause());
            }
        }
        return thrown;
    }
}
