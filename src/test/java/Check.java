import java.util.NoSuchElementException;
import java.util.function.Function;
import java.util.function.Supplier;

/** Compares answers with those that are due, and counts the wrong ones. An exception is told by its name. */
final class Check {
    static final String STATE = "throws.IllegalStateException";
    static final String ARGUMENT = "throws.IllegalArgumentException";
    static final String NO_ELEMENT = "throws.NoSuchElementException";

    private static int checks = 0;
    private static int wrong = 0;

    private Check() {
    }

    static void due(String what, Object want, Object got) {
        checks++;
        if (!String.valueOf(want).equals(String.valueOf(got))) {
            wrong++;
            System.out.println(what + ": answered " + got + ", due is " + want);
        }
    }

    static void due(String what, Object want, Supplier<Object> call) {
        due(what, want, answerOf(call));
    }

    /** The call must throw, and leave behind nothing that a hall made the same way without it would not show. */
    static void refused(String what, String want, Supplier<HiringHall> maker, Function<HiringHall, Object> call) {
        due(what, want, () -> call.apply(maker.get()));
        due(what + " changes nothing", Look.at(maker), Look.at(() -> afterwards(maker, call)));
    }

    /** The call must answer, and leave behind nothing either. */
    static void asked(String what, Object want, Supplier<HiringHall> maker, Function<HiringHall, Object> call) {
        refused(what, String.valueOf(want), maker, call);
    }

    private static HiringHall afterwards(Supplier<HiringHall> maker, Function<HiringHall, Object> call) {
        HiringHall hall = maker.get();
        answerOf(() -> call.apply(hall));
        return hall;
    }

    static String answerOf(Supplier<Object> call) {
        try {
            return String.valueOf(call.get());
        } catch (RuntimeException e) {
            boolean named = e.getClass() == NoSuchElementException.class
                    || e.getClass() == IllegalStateException.class || e.getClass() == IllegalArgumentException.class;
            return "throws." + (named ? e.getClass().getSimpleName() : e.toString());
        }
    }

    static int count() {
        return checks;
    }

    static void end(String test) {
        System.out.println(test + ": " + checks + " answers looked at, " + wrong + " wrong");
        if (wrong != 0) {
            System.exit(1);
        }
    }
}
