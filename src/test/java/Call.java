import java.lang.reflect.InvocationTargetException;
import java.lang.reflect.Method;
import java.util.Arrays;

/** One call of the face, held as a value, so that the same call can be made on several objects. */
final class Call {
    private final Method method;
    private final Object[] given;

    private Call(Method method, Object[] given) {
        this.method = method;
        this.given = given;
    }

    static Call of(String name, Number... numbers) {
        for (Method method : NetShapes.class.getMethods()) {
            Class<?>[] types = method.getParameterTypes();
            if (method.getName().equals(name) && types.length == numbers.length) {
                return new Call(method, asTypes(numbers, types));
            }
        }
        throw new IllegalArgumentException("no call " + name + Arrays.toString(numbers));
    }

    private static Object[] asTypes(Number[] numbers, Class<?>[] types) {
        Object[] given = new Object[numbers.length];
        for (int i = 0; i < given.length; i++) {
            boolean whole = types[i] == int.class;
            if (whole && !(numbers[i] instanceof Integer)) {
                throw new IllegalArgumentException(numbers[i] + " is no int");
            }
            given[i] = whole ? (Object) numbers[i].intValue() : (Object) numbers[i].doubleValue();
        }
        return given;
    }

    /** The answer; what the call throws is an answer too, one that is never due. */
    Object on(NetShapes x) {
        try {
            return method.invoke(x, given);
        } catch (InvocationTargetException thrown) {
            return "thrown: " + thrown.getCause();
        } catch (IllegalAccessException hidden) {
            throw new IllegalStateException(toString(), hidden);
        }
    }

    @Override
    public String toString() {
        String inside = Arrays.toString(given);
        return method.getName() + "(" + inside.substring(1, inside.length() - 1) + ")";
    }
}
