import java.lang.reflect.InvocationTargetException;
import java.lang.reflect.Method;
import java.lang.reflect.Modifier;

/** No call throws, whatever its arguments are, in objects with nothing, little and the most in them. */
public final class AnyArgumentsTests {
    private static final int[] NUMBERS = {
        Integer.MIN_VALUE, -2, -1, 0, 1, 2, 3, 7, 8, 9, 255, 256, 257, 50000, Integer.MAX_VALUE,
    };
    private static final int[] FEW_NUMBERS = {Integer.MIN_VALUE, -1, 0, Integer.MAX_VALUE};
    private static final int CALLS_AN_OBJECT = 400;
    private static final int MOST_CHOICES = 60000;

    private static final Edges.Setup[] SETUPS = {
        x -> { },
        Edges::rich,
        Edges.lists("bits 1 start 0:;", "bits 8 start 255:;", "bits 2 levels 1 to 1 start 0:;"),
        Edges.lists(Edges.reflected(8), Edges.turning(8, 256),
            "bits 8 start 255:" + "0".repeat(255) + "7;"),
        Edges.lists(Edges.reflected(4), Edges.reflected(6), Edges.turning(1, 256)),
    };

    private static int wrong = 0;

    private AnyArgumentsTests() {
    }

    public static void main(String[] args) throws Exception {
        for (Method method : OneAtATime.class.getDeclaredMethods()) {
            if (Modifier.isPublic(method.getModifiers())) {
                for (Edges.Setup setup : SETUPS) {
                    callsWithAll(method, setup);
                }
            }
        }
        System.out.println(wrong == 0 ? "no call throws" : wrong + " calls throw");
        if (wrong != 0) {
            System.exit(1);
        }
    }

    private static void callsWithAll(Method method, Edges.Setup setup)
            throws IllegalAccessException {
        Class<?>[] types = method.getParameterTypes();
        int[] numbers = types.length > 4 ? FEW_NUMBERS : NUMBERS;
        int choices = 1;
        for (int i = 0; i < types.length; i++) {
            choices *= numbers.length;
        }
        OneAtATime x = null;
        for (int choice = 0; choice < Math.min(choices, MOST_CHOICES); choice++) {
            if (choice % CALLS_AN_OBJECT == 0) {
                x = Edges.fresh(setup);
            }
            Object[] arguments = new Object[types.length];
            int left = choice;
            for (int i = 0; i < types.length; i++) {
                int number = numbers[left % numbers.length];
                left /= numbers.length;
                arguments[i] = types[i] == long.class ? (Object) (long) number : (Object) number;
            }
            callsOne(method, x, arguments);
        }
    }

    private static void callsOne(Method method, OneAtATime x, Object[] arguments)
            throws IllegalAccessException {
        try {
            method.invoke(x, arguments);
        } catch (InvocationTargetException thrown) {
            wrong++;
            System.out.println(method.getName() + java.util.Arrays.toString(arguments)
                + " threw " + thrown.getCause());
        }
    }
}
