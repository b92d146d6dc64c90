import java.lang.reflect.InvocationTargetException;
import java.lang.reflect.Method;
import java.lang.reflect.Modifier;
import java.util.ArrayList;
import java.util.Comparator;
import java.util.List;
import java.util.Random;

/** Whatever the arguments, a call throws only what the document lists for it, and never what the machine throws. */
public final class AnyArgumentsTest {
    private static final Check CHECK = new Check();
    private static final int RUNS = 150;
    private static final int CALLS = 512;
    private static final int[] EDGES = {Integer.MIN_VALUE, Integer.MIN_VALUE + 1, -1000, -2, -1, 0, 1, 2, 3, 4, 5, 6, 8,
        9, 10, 11, 12, 13, 19, 20, 21, 39, 40, 41, 99, 100, 149, 150, 151, 799, 800, 801, 1000, Integer.MAX_VALUE - 1,
        Integer.MAX_VALUE};
    private static final String[] TEXTS = {
        "bars 99;bars 51;mark 3;cut 4 9;part a play 50;part b cue 9;",
        "bars 9 3;mark 3;mark 4;text 5;double 6;cut 2 7;part a rest 3 play 3;part b;",
        "part a;part b;part c;part d;part e;part f;",
        "bars 1;mark 1;cut 1 1;part a cue 1;",
        "",
    };

    private final Random random;
    private final ScoreParts x = new ScoreParts();

    private AnyArgumentsTest(int seed) {
        random = new Random(seed);
    }

    public static void main(String[] args) throws IllegalAccessException {
        List<Method> methods = methods();
        CHECK.due("methods", methods.size(), 45);
        for (int run = 0; run < RUNS; run++) {
            new AnyArgumentsTest(run).play(methods);
        }
        CHECK.finish();
    }

    private static List<Method> methods() {
        List<Method> methods = new ArrayList<>();
        for (Method method : ScoreParts.class.getDeclaredMethods()) {
            if (Modifier.isPublic(method.getModifiers())) {
                methods.add(method);
            }
        }
        // The machine lists them in no certain order.
        methods.sort(Comparator.comparing(Method::getName));
        return methods;
    }

    private void play(List<Method> methods) throws IllegalAccessException {
        Check.load(x, TEXTS[random.nextInt(TEXTS.length)]);
        for (int call = 20; call < CALLS; call++) {
            Method method = methods.get(random.nextInt(methods.size()));
            if (method.getName().equals("load") && random.nextInt(4) > 0) {
                // An empty score answers little, so that most runs keep theirs.
                continue;
            }
            call(method);
        }
    }

    private int someInt() {
        return random.nextInt(20) == 0 ? random.nextInt() : random.nextInt(3) == 0 ? EDGES[random.nextInt(EDGES.length)]
                : random.nextBoolean() ? random.nextInt(3) : random.nextInt(20);
    }

    private void call(Method method) throws IllegalAccessException {
        Object[] arguments = new Object[method.getParameterCount()];
        StringBuilder told = new StringBuilder(method.getName());
        for (int index = 0; index < arguments.length; index++) {
            boolean isFlag = method.getParameterTypes()[index] == boolean.class;
            arguments[index] = isFlag ? (Object) random.nextBoolean() : (Object) someInt();
            told.append(' ').append(arguments[index]);
        }
        try {
            method.invoke(x, arguments);
        } catch (InvocationTargetException e) {
            List<Class<?>> listed = List.of(method.getExceptionTypes());
            CHECK.due(told + " threw " + e.getCause(), listed.contains(e.getCause().getClass()), true);
        }
    }
}
