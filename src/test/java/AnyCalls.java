import java.lang.reflect.InvocationTargetException;
import java.lang.reflect.Method;
import java.lang.reflect.Modifier;
import java.util.ArrayList;
import java.util.Comparator;
import java.util.List;

/** Calls of any method with any arguments, small ones mostly; the same seed makes the same calls. */
final class AnyCalls {
    private static final int[] FAR = {-1, 13, 48, 99, 100, 127, 1 << 16, 1 << 30, -(1 << 30), Integer.MAX_VALUE,
        Integer.MIN_VALUE};
    private static final String CODES = "0123456789-,-,x";
    private static final List<Method> METHODS = methods();

    private long state;
    private int answered = 0;
    private int refused = 0;
    private int unnamed = 0;

    AnyCalls(int seed) {
        state = 2654435761L * seed + 97;
    }

    private static List<Method> methods() {
        List<Method> methods = new ArrayList<>();
        for (Method method : StickPairs.class.getDeclaredMethods()) {
            if (Modifier.isPublic(method.getModifiers())) {
                methods.add(method);
            }
        }
        // Reflection promises no order, and the calls are to be the same each time.
        methods.sort(Comparator.comparing(Method::getName));
        return methods;
    }

    private int below(int bound) {
        state = state * 6364136223846793005L + 1442695040888963407L;
        return (int) ((state >>> 33) % bound);
    }

    private int argument(Method method) {
        if (below(12) == 0) {
            return FAR[below(FAR.length)];
        }
        if (method.getName().equals("append")) {
            return CODES.charAt(below(CODES.length()));
        }
        return below(4) == 0 ? below(50) : below(4);
    }

    void make(StickPairs x, int calls) {
        for (int call = 0; call < calls; call++) {
            Method method = METHODS.get(below(METHODS.size()));
            Object[] arguments = new Object[method.getParameterCount()];
            for (int i = 0; i < arguments.length; i++) {
                arguments[i] = argument(method);
            }
            makeOne(x, method, arguments);
        }
    }

    private void makeOne(StickPairs x, Method method, Object[] arguments) {
        try {
            method.invoke(x, arguments);
            answered++;
        } catch (InvocationTargetException e) {
            refused++;
            // One that the machine throws is of a class below these, or none of them.
            unnamed += List.of(method.getExceptionTypes()).contains(e.getCause().getClass()) ? 0 : 1;
        } catch (IllegalAccessException e) {
            throw new IllegalStateException("not public", e);
        }
    }

    int answered() {
        return answered;
    }

    int refused() {
        return refused;
    }

    int unnamed() {
        return unnamed;
    }
}
