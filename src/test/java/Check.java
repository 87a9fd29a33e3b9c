import java.util.ArrayList;
import java.util.List;
import java.util.NoSuchElementException;
import java.util.function.Function;
import java.util.function.Supplier;

/** Compares answers with those that are due, and counts the wrong ones. An exception is told by its name. */
final class Check {
    static final String STATE = "throws.IllegalStateException";
    static final String ARGUMENT = "throws.IllegalArgumentException";
    static final String NO_ELEMENT = "throws.NoSuchElementException";

    private static int checks = 0;
    private static int wrong = 0;

    private Check() {
    }

    static void due(String what, Object want, Object got) {
        checks++;
        if (!String.valueOf(want).equals(String.valueOf(got))) {
            wrong++;
            System.out.println(what + ": answered " + got + ", due is " + want);
        }
    }

    static void due(String what, Object want, Supplier<Object> call) {
        due(what, want, answerOf(call));
    }

    /** The call must throw, and leave behind nothing that a hall made the same way without it would not show. */
    static void refused(String what, String want, Supplier<HiringHall> maker, Function<HiringHall, Object> call) {
        HiringHall called = maker.get();
        due(what, want, () -> call.apply(called));
        due(what + " changes nothing", show(maker.get()), show(called));
    }

    static String answerOf(Supplier<Object> call) {
        try {
            return String.valueOf(call.get());
        } catch (RuntimeException e) {
            boolean named = e instanceof NoSuchElementException || e.getClass() == IllegalStateException.class
                    || e.getClass() == IllegalArgumentException.class;
            return "throws." + (named ? e.getClass().getSimpleName() : e.toString());
        }
    }

    /** Everything that questions tell of a hall, and then what can be seen only by using it. */
    static String show(HiringHall hall) {
        List<String> seen = new ArrayList<>();
        ask(hall, seen);
        for (int worker = 0; worker < 40; worker++) {
            probe(hall, worker, seen);
        }
        seen.add("dispatched " + hall.dispatch());
        ask(hall, seen);
        seen.add("ended " + hall.endShift());
        seen.add("hours " + answerOf(() -> hall.setHours(12)));
        for (int board = 0; board < 4; board++) {
            useBoard(hall, board, seen);
        }
        ask(hall, seen);
        seen.add("owed " + answerOf(hall::endPeriod));
        return String.join("\n", seen);
    }

    private static void ask(HiringHall hall, List<String> seen) {
        seen.add("workers " + hall.workers() + " places " + hall.places() + " fillable " + hall.fillable());
        for (int board = 0; board < 4; board++) {
            int b = board;
            seen.add("nextUp " + answerOf(() -> hall.nextUp(b)));
        }
        for (int worker = 0; worker < 40; worker++) {
            int w = worker;
            seen.add("worker " + answerOf(() -> hall.boardOf(w) + " " + hall.rankOf(w) + " " + hall.hoursOf(w) + " "
                    + hall.refusalsOf(w) + " " + hall.placeOf(w) + " " + hall.owedTo(w)));
        }
        for (int place = 0; place < hall.places(); place++) {
            int p = place;
            seen.add("place " + answerOf(() -> hall.workerAt(p)));
        }
    }

    /** Looks at what is told of a worker by telling it anew, and then as it was. */
    private static void probe(HiringHall hall, int worker, List<String> seen) {
        String away = answerOf(() -> hall.setAway(worker, false));
        String refusing = answerOf(() -> hall.setRefusing(worker, false));
        seen.add("away " + away + " refusing " + refusing + " skills " + answerOf(() -> {
            int before = hall.setSkills(worker, 0);
            hall.setSkills(worker, before);
            return before;
        }));
        answerOf(() -> hall.setAway(worker, away.equals("true")));
        answerOf(() -> hall.setRefusing(worker, refusing.equals("true")));
    }

    /** Shows whether a refusal costs the place on a board: everybody on it is asked for a place, and refuses. */
    private static void useBoard(HiringHall hall, int board, List<String> seen) {
        hall.order(0);
        for (int worker = 0; worker < 40; worker++) {
            int w = worker;
            answerOf(() -> hall.boardOf(w) == board ? hall.setSkills(w, 1) : 0);
            answerOf(() -> hall.setRefusing(w, hall.boardOf(w) == board && hall.rankOf(w) == 0));
        }
        seen.add("replaced " + answerOf(() -> hall.replace(0)));
        ask(hall, seen);
        seen.add("ended " + hall.endShift());
        seen.add("rule " + hall.setRule(board, false, 0));
        seen.add("signed " + answerOf(() -> hall.signOn(board, 31)));
    }

    static void end(String test) {
        System.out.println(test + ": " + checks + " answers looked at, " + wrong + " wrong");
        if (wrong != 0) {
            System.exit(1);
        }
    }
}
