import java.lang.reflect.InvocationTargetException;
import java.lang.reflect.Method;
import java.lang.reflect.Modifier;
import java.util.ArrayList;
import java.util.Arrays;
import java.util.Comparator;
import java.util.List;

/** Long runs of calls, right and wrong ones, on a hall and on the model: every answer must be the same. */
public final class ModelTest {
    private static final int MOST_CALLS = 512;
    private static final int RUNS = 3000;

    private static long seed;

    private final List<Method> methods = new ArrayList<>();
    private final HiringHall hall = new HiringHall();
    private final HallModel model = new HallModel();
    private final int signOnsAtFirst;
    private final int skillMask;
    private final int refusers;

    private ModelTest(int run) {
        seed = run * 7919L + 17;
        signOnsAtFirst = below(31);
        skillMask = below(3) == 0 ? 31 : 1 + below(31);
        refusers = below(5);
        for (Method method : HiringHall.class.getDeclaredMethods()) {
            if (Modifier.isPublic(method.getModifiers())) {
                methods.add(method);
            }
        }
        methods.sort(Comparator.comparing(Method::getName));
    }

    public static void main(String[] args) {
        for (int run = 0; run < RUNS; run++) {
            new ModelTest(run).run(run, MOST_CALLS);
        }
        staysQuietAfterItsTime();
        Check.end("ModelTest");
    }

    private void run(int run, int calls) {
        for (int i = 0; i < calls; i++) {
            Method method = i < signOnsAtFirst ? named("signOn") : pick();
            Object[] arguments = arguments(method);
            String call = "run " + run + " call " + i + " " + method.getName() + Arrays.toString(arguments);
            String want = answer(model, method, arguments);
            String got = answer(hall, method, arguments);
            Check.due(call, want, got);
            if (!want.equals(got)) {
                return;
            }
        }
    }

    /** What calls after the 512th answer is free, but the machine itself may not throw in them either. */
    private static void staysQuietAfterItsTime() {
        ModelTest test = new ModelTest(RUNS);
        for (int i = 0; i < 20000; i++) {
            Method method = test.pick();
            String got = answer(test.hall, method, test.arguments(method));
            boolean named = !got.startsWith("throws.") || got.equals(Check.STATE) || got.equals(Check.ARGUMENT)
                    || got.equals(Check.NO_ELEMENT);
            Check.due("late call " + i + " " + method.getName() + " answers", true, named);
        }
    }

    private Method pick() {
        Method method = methods.get(below(methods.size()));
        boolean ends = method.getName().equals("endShift") || method.getName().equals("signOff");
        if (ends && below(3) > 0) {
            return named("order");
        }
        if (method.getParameterCount() == 0 && method.getName().matches("workers|places|endPeriod") && below(2) > 0) {
            return named("replace");
        }
        return method;
    }

    private Method named(String name) {
        for (Method method : methods) {
            if (method.getName().equals(name)) {
                return method;
            }
        }
        throw new IllegalStateException(name);
    }

    private Object[] arguments(Method method) {
        Class<?>[] types = method.getParameterTypes();
        Object[] arguments = new Object[types.length];
        for (int i = 0; i < types.length; i++) {
            arguments[i] = types[i] == boolean.class ? (Object) isTrue(method) : (Object) number(method, i);
        }
        return arguments;
    }

    private boolean isTrue(Method method) {
        return method.getName().equals("setRule") ? below(2) == 0 : below(5) < refusers;
    }

    private int number(Method method, int parameter) {
        if (below(40) == 0) {
            int[] far = {-1, Integer.MIN_VALUE, Integer.MAX_VALUE, 4, 5, 13, 16, 30, 32, 401, -32};
            return far[below(far.length)];
        }
        String name = method.getName();
        if (name.equals("order")) {
            int skill = below(5);
            return (skillMask >> skill & 1) == 1 ? skill : below(5);
        }
        if (name.matches("replace|workerAt")) {
            return below(model.places() + 1);
        }
        if (name.equals("setRule") && parameter == 2) {
            return below(3) == 0 ? below(402) : below(30);
        }
        if (name.matches("signOn|move|setRule|equalise|nextUp") && parameter == (name.equals("move") ? 1 : 0)) {
            return below(4);
        }
        if (name.matches("signOn|setSkills") && parameter == 1) {
            return below(4) == 0 ? below(32) : below(32) & skillMask;
        }
        if (name.equals("setHours")) {
            return below(14);
        }
        if (name.equals("leave") && parameter == 1) {
            return below(3) == 0 ? below(13) : below(4);
        }
        return below(Math.max(8, model.workers() + 2));
    }

    private static String answer(Object object, Method face, Object[] arguments) {
        try {
            Method method = object.getClass().getMethod(face.getName(), face.getParameterTypes());
            return String.valueOf(method.invoke(object, arguments));
        } catch (InvocationTargetException e) {
            return "throws." + e.getCause().getClass().getSimpleName();
        } catch (ReflectiveOperationException e) {
            throw new IllegalStateException(e);
        }
    }

    /** Written out, so that the same runs come every time. */
    private static int below(int bound) {
        seed = seed * 6364136223846793005L + 1442695040888963407L;
        return (int) ((seed >>> 33) % bound);
    }
}
