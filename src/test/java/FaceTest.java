import java.lang.reflect.Constructor;
import java.lang.reflect.Field;
import java.lang.reflect.InvocationTargetException;
import java.lang.reflect.Method;
import java.lang.reflect.Modifier;
import java.util.Arrays;
import java.util.Random;
import java.util.TreeSet;

/** The public face as the document writes it, and that no call throws, whatever it is given. */
public final class FaceTest {
    private static final Checks C = new Checks();
    private static final String[] FACE = {
        "int node(double,double,double)", "int bar(int,int,double,double,double)",
        "boolean fix(int)", "boolean floats(int,double)", "boolean current(double,double,double)",
        "int run(int)", "double at(int,int)", "double pull(int)", "double residual()",
        "double drag(int)", "int over(int)", "double open(int)", "boolean catchAt(int,double)",
        "int panel(int,int,int)", "int cut(int,int,int)", "boolean whole(int)",
        "int edge(int,int)", "boolean foul(double)", "int wave(double,double,int)",
        "boolean mirrored()", "int best(int)", "int sheet(int,int)"};
    private static final int[] WILD_INTS = {Integer.MIN_VALUE, Integer.MIN_VALUE + 1, -2, -1,
        0, 1, 2, 3, 19, 20, 21, 29, 30, 59, 60, 199, 200, 300, 400, 401, Integer.MAX_VALUE};
    private static final double[] WILD_DOUBLES = {Double.NaN, Double.POSITIVE_INFINITY,
        Double.NEGATIVE_INFINITY, Double.MAX_VALUE, -Double.MAX_VALUE, Double.MIN_VALUE,
        -Double.MIN_VALUE, 0.0, -0.0, 1, 0.125, 5, 10, 45, 90, 315, 1000, -1000, 1e5, 1e6, 1e-200};

    public static void main(String[] args) throws ReflectiveOperationException {
        members();
        staticFields();
        for (int seed = 0; seed < 300; seed++) {
            wildRun(new Random(seed));
        }
        C.end("FaceTest");
    }

    private static boolean isHidden(int modifiers) {
        return Modifier.isPrivate(modifiers);
    }

    private static void members() {
        TreeSet<String> due = new TreeSet<>(Arrays.asList(FACE));
        TreeSet<String> seen = new TreeSet<>();
        TreeSet<String> publicNames = new TreeSet<>();
        for (Method method : NetShapes.class.getDeclaredMethods()) {
            if (Modifier.isPublic(method.getModifiers())) {
                publicNames.add(method.getName());
                seen.add(method.toString().replace("public ", "").replace("NetShapes.", ""));
            }
        }
        C.due("public methods are " + seen, seen.equals(due), true);
        for (Method method : NetShapes.class.getDeclaredMethods()) {
            boolean open = Modifier.isPublic(method.getModifiers());
            C.due(method + " is hidden", open || isHidden(method.getModifiers()), true);
            C.due(method + " has a name of its own",
                open || !publicNames.contains(method.getName()), true);
        }
        for (Constructor<?> made : NetShapes.class.getDeclaredConstructors()) {
            C.due("the constructor takes nothing", made.getParameterCount(), 0);
            C.due("the constructor is public", Modifier.isPublic(made.getModifiers()), true);
        }
        int modifiers = NetShapes.class.getModifiers();
        C.due("final", Modifier.isFinal(modifiers) && Modifier.isPublic(modifiers), true);
        for (Class<?> inner : NetShapes.class.getDeclaredClasses()) {
            C.due(inner + " is static", Modifier.isStatic(inner.getModifiers()), true);
            C.due(inner + " has few fields", inner.getDeclaredFields().length <= 20, true);
        }
    }

    private static void staticFields() {
        for (Field field : NetShapes.class.getDeclaredFields()) {
            int modifiers = field.getModifiers();
            boolean none = field.getName().equals("NONE");
            C.due(field + " is public", Modifier.isPublic(modifiers), none);
            C.due(field + " is hidden", isHidden(modifiers), !none);
            if (Modifier.isStatic(modifiers)) {
                C.due(field + " is final", Modifier.isFinal(modifiers), true);
                C.due(field + " is an int", field.getType() == int.class, true);
            }
        }
    }

    private static Object argument(Random r, Class<?> type) {
        if (type == int.class) {
            return r.nextBoolean() ? r.nextInt(8) : WILD_INTS[r.nextInt(WILD_INTS.length)];
        }
        return r.nextBoolean() ? r.nextInt(8) * 0.5 : WILD_DOUBLES[r.nextInt(WILD_DOUBLES.length)];
    }

    private static void wildRun(Random r) throws ReflectiveOperationException {
        NetShapes x = new NetShapes();
        Method[] methods = Arrays.stream(NetShapes.class.getDeclaredMethods())
            .filter(m -> Modifier.isPublic(m.getModifiers()))
            .sorted((a, b) -> a.toString().compareTo(b.toString())).toArray(Method[]::new);
        for (int call = 0; call < 512; call++) {
            Method method = methods[r.nextInt(methods.length)];
            Object[] given = Arrays.stream(method.getParameterTypes())
                .map(type -> argument(r, type)).toArray();
            String text = method.getName() + Arrays.toString(given);
            try {
                Object got = method.invoke(x, given);
                boolean number = !(got instanceof Double) || Double.isFinite((Double) got);
                C.due(text + " is a number", number, true);
            } catch (InvocationTargetException thrown) {
                C.due(text + " threw " + thrown.getCause(), true, false);
            }
        }
    }
}
