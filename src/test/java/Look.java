import java.util.ArrayList;
import java.util.List;
import java.util.function.Supplier;

/**
 * Everything that can be seen of a hall: what the questions tell, and what shows when it is used further. Each look
 * takes a hall of its own, since using it changes it and the document promises nothing after 512 calls.
 */
final class Look {
    /** Above the numbers of all workers of the halls that are looked at. */
    private static final int NUMBERS = 34;

    private final HiringHall hall;
    private final List<String> seen = new ArrayList<>();

    private Look(HiringHall hall) {
        this.hall = hall;
    }

    static String at(Supplier<HiringHall> maker) {
        List<String> seen = new ArrayList<>();
        seen.add(new Look(maker.get()).ask());
        seen.add(new Look(maker.get()).tellAnew());
        seen.add(new Look(maker.get()).endAndRefuse());
        seen.add(new Look(maker.get()).goOn());
        return String.join("\n", seen);
    }

    private void see(String what, Supplier<Object> call) {
        seen.add(what + " " + Check.answerOf(call));
    }

    private String told() {
        return String.join("\n", seen);
    }

    private String ask() {
        seen.add("workers " + hall.workers() + " places " + hall.places() + " fillable " + hall.fillable());
        for (int board = 0; board < 4; board++) {
            int b = board;
            see("nextUp", () -> hall.nextUp(b));
        }
        for (int worker = 0; worker < NUMBERS; worker++) {
            int w = worker;
            see("worker " + w, () -> hall.boardOf(w) + " " + hall.rankOf(w) + " " + hall.hoursOf(w) + " "
                    + hall.refusalsOf(w) + " " + hall.placeOf(w) + " " + hall.owedTo(w));
        }
        for (int place = 0; place < hall.places(); place++) {
            int p = place;
            see("place " + p, () -> hall.workerAt(p));
        }
        return told();
    }

    /** Calls that answer what was told before. */
    private String tellAnew() {
        for (int worker = 0; worker < NUMBERS; worker++) {
            int w = worker;
            see("away", () -> hall.setAway(w, false));
            see("refusing", () -> hall.setRefusing(w, false));
            see("skills", () -> hall.setSkills(w, 0));
        }
        for (int board = 0; board < 4; board++) {
            int b = board;
            see("guaranteed", () -> hall.setRule(b, false, 0));
        }
        see("hours", () -> hall.setHours(1));
        see("period", hall::endPeriod);
        see("ordered", () -> hall.order(0));
        see("signed", () -> hall.signOn(0, 0));
        return told();
    }

    /** Shows what the shift was, and whether a refusal costs the place: the first of each board refuses. */
    private String endAndRefuse() {
        see("ended", hall::endShift);
        see("hours", () -> hall.setHours(12));
        for (int board = 0; board < 4 && hall.workers() < 23; board++) {
            hall.signOn(board, 0);
            hall.signOn(board, 0);
        }
        hall.order(0);
        for (int worker = 0; worker < NUMBERS; worker++) {
            int w = worker;
            Check.answerOf(() -> hall.setAway(w, false));
            Check.answerOf(() -> hall.setSkills(w, hall.rankOf(w) == 0 ? 1 : 0));
            Check.answerOf(() -> hall.setRefusing(w, true));
        }
        see("replaced", () -> hall.replace(0));
        for (int worker = 0; worker < NUMBERS; worker++) {
            int w = worker;
            see("rank", () -> hall.rankOf(w));
        }
        return told();
    }

    /** Goes on with the shift, to see places, skills and the hour of the shift. */
    private String goOn() {
        see("dispatched", hall::dispatch);
        for (int place = 0; place < hall.places(); place++) {
            int p = place;
            see("filled", () -> hall.workerAt(p));
        }
        letOneLeave();
        for (int place = 0; place < hall.places(); place++) {
            int p = place;
            see("replaced", () -> hall.replace(p));
        }
        see("ended", hall::endShift);
        see("owed", hall::endPeriod);
        return told();
    }

    private void letOneLeave() {
        for (int place = 0; place < hall.places(); place++) {
            int worker = hall.workerAt(place);
            for (int hour = 0; hour <= 12 && worker != HiringHall.NONE; hour++) {
                int h = hour;
                String left = Check.answerOf(() -> hall.leave(worker, h));
                seen.add("left at " + h + " " + left);
                if (!left.startsWith("throws")) {
                    return;
                }
            }
        }
    }
}
