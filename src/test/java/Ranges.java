import java.util.function.Supplier;

/** The ranges of the arguments: the last value that is allowed and the first that is not, on both sides. */
final class Ranges {
    interface Call {
        Object on(HiringHall hall, int value);
    }

    private Ranges() {
    }

    /** The values from the lowest to the highest are answered, those beyond them are refused. */
    static void within(String name, int lowest, int highest, Supplier<HiringHall> maker, Call call) {
        for (int value = lowest; value <= highest; value++) {
            int v = value;
            answered(name + " with " + v, Check.answerOf(() -> call.on(maker.get(), v)));
        }
        int[] beyond = {lowest - 1, highest + 1, Integer.MIN_VALUE, Integer.MAX_VALUE};
        for (int value : beyond) {
            Check.refused(name + " with " + value, Check.ARGUMENT, maker, hall -> call.on(hall, value));
        }
    }

    static void board(String name, Call call) {
        within(name + " on a hall without workers, board", 0, 3, HiringHall::new, call);
        within(name + " on a busy hall, board", 0, 3, Halls::busy, call);
        within(name + " on a hall full of workers, board", 0, 3, Halls::full, call);
    }

    private static void answered(String what, String got) {
        Check.due(what + " answers (" + got + ")", false, got.startsWith("throws"));
    }

    /** There are the workers 0 to 29 of a full hall, and those of them who are not signed off; others are not. */
    static void worker(String name, Call call) {
        for (int worker = 0; worker < 30; worker++) {
            int w = worker;
            String got = Check.answerOf(() -> call.on(Halls.full(), w));
            Check.due(name + " of worker " + w + " of 30 (" + got + ")", false, got.equals(Check.NO_ELEMENT));
        }
        nobody(name + " on a hall without workers", HiringHall::new, call, -1, 0, 1, 29);
        nobody(name + " on a hall of 2 workers", () -> Halls.of(1, 1), call, -1, 2, 3);
        nobody(name + " on a busy hall", Halls::busy, call, -1, 6, Integer.MIN_VALUE, Integer.MAX_VALUE);
        nobody(name + " on a full hall", Halls::full, call, -1, 30, 31, Integer.MIN_VALUE, Integer.MAX_VALUE);
        int[] gone = {0, 13, 29};
        for (int number : gone) {
            nobody(name + " of one signed off", () -> fullWithout(number), call, number);
            nobody(name + " of one replaced", () -> fullWithAnotherFor(number), call, number, 31);
            String got = Check.answerOf(() -> call.on(fullWithAnotherFor(number), 30));
            Check.due(name + " of worker 30 (" + got + ")", false, got.equals(Check.NO_ELEMENT));
        }
    }

    private static HiringHall fullWithout(int number) {
        HiringHall hall = Halls.full();
        hall.signOff(number);
        return hall;
    }

    private static HiringHall fullWithAnotherFor(int number) {
        HiringHall hall = fullWithout(number);
        hall.signOn(number % 4, number);
        return hall;
    }

    private static void nobody(String name, Supplier<HiringHall> maker, Call call, int... numbers) {
        for (int number : numbers) {
            Check.refused(name + ", nobody " + number, Check.NO_ELEMENT, maker, hall -> call.on(hall, number));
        }
    }

    /** There are the places that were ordered since the last shift ended; others are not. */
    static void place(String name, Call call) {
        for (int place = 0; place < 16; place++) {
            int p = place;
            answered(name + " of place " + p + " of 16", Check.answerOf(() -> call.on(Halls.sixteenPlaces(), p)));
        }
        nobody(name + " on a hall without places", HiringHall::new, call, -1, 0, 1);
        nobody(name + " on a hall of 1 place", () -> Halls.ordered(Halls.of(1), 0), call, -1, 1, 2);
        nobody(name + " on a busy hall", Halls::busy, call, -1, 2, 16, Integer.MIN_VALUE, Integer.MAX_VALUE);
        nobody(name + " on a hall of 16 places", Halls::sixteenPlaces, call, -1, 16, 17, Integer.MAX_VALUE);
        nobody(name + " after the shift", Ranges::sixteenEnded, call, -1, 0, 15);
    }

    private static HiringHall sixteenEnded() {
        HiringHall hall = Halls.sixteenPlaces();
        hall.endShift();
        return hall;
    }
}
