import java.util.function.Supplier;

/** The promises one by one, each with ordinary inputs, the edges that the document names, and wrong inputs. */
public final class PromisesTest {
    private static final int MIN = Integer.MIN_VALUE;
    private static final int MAX = Integer.MAX_VALUE;

    private PromisesTest() {
    }

    public static void main(String[] args) {
        newObject();
        signOn();
        signOnLimit();
        signOff();
        setSkills();
        move();
        setAway();
        setRefusing();
        setRule();
        equalise();
        order();
        dispatchTakes();
        dispatchGivesPlaces();
        dispatchAndRefusals();
        dispatchInTheShift();
        setHours();
        leave();
        replace();
        replaceAndRefusals();
        endShift();
        endPeriod();
        questionsOfWorkers();
        hoursOf();
        owedTo();
        questionsOfPlaces();
        nextUp();
        fillable();
        Check.end("PromisesTest");
    }

    private static void refusedByAll(String what, String want, java.util.function.Function<HiringHall, Object> call) {
        Check.refused(what + " on a new hall", want, HiringHall::new, call);
        Check.refused(what + " on a busy hall", want, Halls::busy, call);
    }

    // ---- 1 to 9: workers and boards

    private static void newObject() {
        HiringHall hall = new HiringHall();
        Check.due("a new hall has no workers", 0, hall.workers());
        Check.due("a new hall has no places", 0, hall.places());
        Check.due("nobody to dispatch", 0, hall.dispatch());
        Check.due("nothing to fill", 0, hall.fillable());
        Check.due("no shift to pay", 0, hall.endShift());
        Check.due("no period to pay", 0, hall.endPeriod());
        Check.due("shifts have 8 hours", 8, hall.setHours(8));
        for (int board = 0; board < 4; board++) {
            Check.due("a new board is empty", HiringHall.NONE, hall.nextUp(board));
            HiringHall refusing = new HiringHall();
            refusing.signOn(board, 1);
            refusing.signOn(board, 2);
            refusing.setRefusing(0, true);
            refusing.order(0);
            refusing.replace(0);
            Check.due("no refusal costs the place", 0, refusing.rankOf(0));
            Check.due("nothing is guaranteed", 0, refusing.setRule(board, true, 400));
        }
        Check.due("NONE", -1, HiringHall.NONE);
    }

    private static void signOn() {
        HiringHall hall = new HiringHall();
        Check.due("the first worker", 0, hall.signOn(3, 31));
        Check.due("the second worker", 1, hall.signOn(3, 0));
        Check.due("the third worker", 2, hall.signOn(0, 1));
        Check.due("the board", 3, hall.boardOf(0));
        Check.due("the bottom", 1, hall.rankOf(1));
        Check.due("the bottom of another board", 0, hall.rankOf(2));
        Check.due("the skills", 31, hall.setSkills(0, 1));
        Check.due("no skills", 0, hall.setSkills(1, 1));
        Check.due("no hours", 0, hall.hoursOf(1));
        Check.due("no refusals", 0, hall.refusalsOf(1));
        Check.due("no place", HiringHall.NONE, hall.placeOf(1));
        Check.due("does not refuse", false, hall.setRefusing(1, false));
        Check.due("is here", false, hall.setAway(1, false));
        int[] badBoards = {-1, 4, MIN, MAX};
        for (int bad : badBoards) {
            refusedByAll("signOn to board " + bad, Check.ARGUMENT, h -> h.signOn(bad, 1));
        }
        int[] badSkills = {-1, 32, MIN, MAX};
        for (int bad : badSkills) {
            refusedByAll("signOn with skills " + bad, Check.ARGUMENT, h -> h.signOn(0, bad));
        }
    }

    private static void signOnLimit() {
        HiringHall hall = Halls.full();
        Check.due("30 workers", 30, hall.workers());
        Check.refused("the 31st worker", Check.STATE, Halls::full, h -> h.signOn(0, 0));
        Check.refused("the argument first", Check.ARGUMENT, Halls::full, h -> h.signOn(4, 0));
        Check.refused("the argument first", Check.ARGUMENT, Halls::full, h -> h.signOn(0, 32));
        hall.signOff(7);
        Check.due("numbers are never given again", 30, hall.signOn(1, 1));
        Check.due("full again", Check.STATE, () -> hall.signOn(1, 1));
        hall.signOff(30);
        Check.due("nor is the number of one just signed off", 31, hall.signOn(1, 1));
        HiringHall often = new HiringHall();
        for (int i = 0; i < 100; i++) {
            Check.due("the number " + i, i, often.signOn(i % 4, i % 32));
            Check.due("signed off " + i, 0, often.signOff(i));
        }
    }

    private static void signOff() {
        HiringHall hall = Halls.ordered(Halls.of(1, 1, 1), 0, 0);
        Check.due("signOff of a worker without hours", 0, hall.signOff(2));
        Check.due("dispatched", 2, hall.dispatch());
        hall.leave(0, 5);
        Check.due("signOff after the work", 5, hall.signOff(0));
        Check.due("no such worker then", Check.NO_ELEMENT, () -> hall.boardOf(0));
        Check.due("those below move up", 0, hall.rankOf(1));
        Check.due("fewer workers", 1, hall.workers());
        Check.due("the place stays open", HiringHall.NONE, hall.workerAt(0));
        Check.due("the work counts for the shift", 13, hall.endShift());
        Check.due("signOff with a whole shift", 8, hall.signOff(1));
        Check.due("nobody is left", 0, hall.workers());
        Check.refused("signOff at work", Check.STATE, Halls::busy, h -> h.signOff(1));
        int[] nobody = {-1, 6, 30, MIN, MAX};
        for (int worker : nobody) {
            refusedByAll("signOff of " + worker, Check.NO_ELEMENT, h -> h.signOff(worker));
        }
        Check.refused("signOff twice", Check.NO_ELEMENT, () -> {
            HiringHall gone = Halls.busy();
            gone.signOff(0);
            return gone;
        }, h -> h.signOff(0));
    }

    private static void setSkills() {
        HiringHall hall = Halls.ordered(Halls.of(5, 2), 1);
        Check.due("the skills before", 5, hall.setSkills(0, 2));
        Check.due("the skills now", 2, hall.setSkills(0, 2));
        Check.due("the new skill counts", 1, hall.dispatch());
        Check.due("of the first in turn", 0, hall.workerAt(0));
        hall.leave(0, 0);
        Check.due("who left may learn", 2, hall.setSkills(0, 31));
        Check.due("all skills", 31, hall.setSkills(0, 0));
        Check.due("no skills", 0, hall.setSkills(0, 1));
        Check.refused("setSkills at work", Check.STATE, Halls::busy, h -> h.setSkills(1, 0));
        refusedByAll("setSkills of nobody", Check.NO_ELEMENT, h -> h.setSkills(6, 1));
        refusedByAll("setSkills of nobody, badly", Check.NO_ELEMENT, h -> h.setSkills(-1, 32));
        int[] bad = {-1, 32, MIN, MAX};
        for (int skills : bad) {
            Check.refused("setSkills to " + skills, Check.ARGUMENT, Halls::busy,
                    h -> h.setSkills(0, skills));
            Check.refused("setSkills at work to " + skills, Check.ARGUMENT, Halls::busy,
                    h -> h.setSkills(1, skills));
        }
    }

    private static void move() {
        HiringHall hall = Halls.of(1, 1, 1);
        hall.signOn(3, 1);
        Check.due("the board before", 0, hall.move(0, 3));
        Check.due("the board now", 3, hall.boardOf(0));
        Check.due("at the bottom", 1, hall.rankOf(0));
        Check.due("those below move up", "0 1", hall.rankOf(1) + " " + hall.rankOf(2));
        Check.due("to the own board", 0, hall.move(1, 0));
        Check.due("at the bottom of it", "1 0", hall.rankOf(1) + " " + hall.rankOf(2));
        Check.due("again", 3, hall.move(0, 3));
        Check.due("the only one of a board", 3, hall.move(3, 1));
        Check.due("stands at the top", 0, hall.rankOf(3));
        Halls.ordered(hall, 0).dispatch();
        Check.due("at work", 0, hall.placeOf(2));
        Check.due("a worker at work can be moved", 0, hall.move(2, 2));
        Check.due("and stays at work", 0, hall.placeOf(2));
        Check.due("the turn goes by boards", 1, hall.nextUp(0));
        refusedByAll("move of nobody", Check.NO_ELEMENT, h -> h.move(6, 0));
        refusedByAll("move of nobody to no board", Check.NO_ELEMENT, h -> h.move(-1, 4));
        int[] badBoards = {-1, 4, MIN, MAX};
        for (int bad : badBoards) {
            Check.refused("move to board " + bad, Check.ARGUMENT, Halls::busy, h -> h.move(1, bad));
        }
    }

    private static void setAway() {
        HiringHall hall = Halls.ordered(Halls.of(1, 1), 0);
        Check.due("was here", false, hall.setAway(0, true));
        Check.due("was away", true, hall.setAway(0, true));
        Check.due("who is away is not dispatched", 1, hall.dispatch());
        Check.due("but the next is", 1, hall.workerAt(0));
        Check.due("a worker at work may be away", false, hall.setAway(1, true));
        Check.due("and stays at work", 0, hall.placeOf(1));
        Check.due("nobody is ready", HiringHall.NONE, hall.nextUp(0));
        Check.due("here again", true, hall.setAway(0, false));
        Check.due("was here again", false, hall.setAway(0, false));
        Check.due("and ready", 0, hall.nextUp(0));
        Check.due("those away work to the end", 8, hall.endShift());
        Check.due("who is away stays away after the shift", true, hall.setAway(1, true));
        hall.endPeriod();
        Check.due("and after the period", true, hall.setAway(1, false));
        refusedByAll("setAway of nobody", Check.NO_ELEMENT, h -> h.setAway(6, true));
        refusedByAll("setAway of -1", Check.NO_ELEMENT, h -> h.setAway(-1, false));
    }

    private static void setRefusing() {
        HiringHall hall = Halls.ordered(Halls.of(1, 1), 0);
        Check.due("did not refuse", false, hall.setRefusing(0, true));
        Check.due("refuses", true, hall.setRefusing(0, true));
        Check.due("telling is no refusal", 0, hall.refusalsOf(0));
        Check.due("the other is taken", 1, hall.dispatch());
        Check.due("the other one", 1, hall.workerAt(0));
        Check.due("it stays until told otherwise", true, hall.setRefusing(0, false));
        Check.due("no more", false, hall.setRefusing(0, true));
        Check.due("a worker at work may be told", false, hall.setRefusing(1, true));
        hall.endShift();
        Check.due("it ends with the shift", false, hall.setRefusing(0, true));
        Check.due("for those who were at work, too", false, hall.setRefusing(1, false));
        hall.endPeriod();
        Check.due("it does not end with the period", true, hall.setRefusing(0, true));
        refusedByAll("setRefusing of nobody", Check.NO_ELEMENT, h -> h.setRefusing(6, true));
        refusedByAll("setRefusing of -1", Check.NO_ELEMENT, h -> h.setRefusing(-1, false));
    }

    private static void setRule() {
        HiringHall hall = Halls.of(1, 2);
        Check.due("nothing was guaranteed", 0, hall.setRule(0, false, 400));
        Check.due("400 hours were", 400, hall.setRule(0, true, 0));
        Check.due("none were", 0, hall.setRule(0, true, 17));
        Check.due("another board has its own rule", 0, hall.setRule(3, false, 5));
        Check.due("the rule stays", 17, hall.setRule(0, true, 16));
        Check.due("the guarantee counts", 16, hall.owedTo(1));
        hall.setRefusing(0, true);
        Halls.ordered(hall, 0).replace(0);
        Check.due("the refusal costs the place", "1 0", Halls.ranks(hall, 2));
        HiringHall free = Halls.of(1, 1, 1);
        free.setRule(0, true, 1);
        free.setRule(0, false, 1);
        free.setRule(1, true, 1);
        free.setRefusing(0, true);
        Halls.ordered(free, 0).dispatch();
        Check.due("the refusal does not cost the place", "0 2 1", Halls.ranks(free, 3));
        int[] badBoards = {-1, 4, MIN, MAX};
        for (int bad : badBoards) {
            refusedByAll("setRule of board " + bad, Check.ARGUMENT, h -> h.setRule(bad, true, 1));
        }
        int[] badHours = {-1, 401, MIN, MAX};
        for (int bad : badHours) {
            refusedByAll("setRule with " + bad, Check.ARGUMENT, h -> h.setRule(0, false, bad));
        }
    }

    private static void equalise() {
        HiringHall hall = Halls.ordered(Halls.of(1, 2, 4, 8, 16), 0, 1, 2, 3);
        hall.signOn(1, 31);
        hall.dispatch();
        hall.leave(1, 2);
        hall.leave(0, 4);
        hall.leave(2, 4);
        hall.leave(3, 6);
        Check.due("the order before", "1 2 3 4 0", Halls.ranks(hall, 5));
        Check.due("only two have another place", 2, hall.equalise(0));
        Check.due("fewer hours first, equal ones stay", "2 1 3 4 0", Halls.ranks(hall, 5));
        Check.due("nothing to change", 0, hall.equalise(0));
        hall.move(4, 0);
        hall.setAway(4, true);
        Check.due("all have another place, those away too", 5, hall.equalise(0));
        Check.due("the turn anew", "2 1 3 4 0", Halls.ranks(hall, 5));
        Check.due("one on a board", 0, hall.equalise(1));
        Check.due("an empty board", 0, hall.equalise(3));
        Check.due("another board stays", 0, hall.rankOf(5));
        hall.endShift();
        hall.move(0, 0);
        hall.endPeriod();
        Check.due("without hours all stay", 0, hall.equalise(0));
        Check.due("as they are", "4 1 2 3 0", Halls.ranks(hall, 5));
        int[] badBoards = {-1, 4, MIN, MAX};
        for (int bad : badBoards) {
            refusedByAll("equalise of board " + bad, Check.ARGUMENT, h -> h.equalise(bad));
        }
    }

    // ---- 10 to 16: orders and gangs

    private static void order() {
        HiringHall hall = Halls.of(31);
        Check.due("the first place", 0, hall.order(4));
        Check.due("the second place", 1, hall.order(0));
        Check.due("open", HiringHall.NONE, hall.workerAt(1));
        hall.dispatch();
        Check.due("ordered in the shift", 2, hall.order(1));
        hall.endShift();
        Check.due("numbered anew in the next", 0, hall.order(0));
        Supplier<HiringHall> sixteen = () -> {
            HiringHall h = Halls.of(31, 31);
            for (int place = 0; place < 16; place++) {
                Check.due("place " + place, place, h.order(place % 5));
            }
            return h;
        };
        Check.due("16 places", 16, sixteen.get().places());
        Check.refused("the 17th place", Check.STATE, sixteen, h -> h.order(0));
        int[] bad = {-1, 5, 32, MIN, MAX};
        for (int skill : bad) {
            refusedByAll("order of skill " + skill, Check.ARGUMENT, h -> h.order(skill));
            Check.refused("the argument first", Check.ARGUMENT, sixteen, h -> h.order(skill));
        }
    }

    private static void dispatchTakes() {
        HiringHall hall = Halls.ordered(Halls.of(1, 1, 3, 0, 2), 0, 1);
        Check.due("one without a place is passed over", 2, hall.dispatch());
        Check.due("0 and 2", "0 2", Halls.filled(hall));
        Check.due("the taken go to the bottom", "3 0 4 1 2", Halls.ranks(hall, 5));
        Check.due("passed over is no refusal", 0, hall.refusalsOf(1));

        HiringHall boards = new HiringHall();
        boards.signOn(3, 1);
        boards.signOn(1, 1);
        boards.signOn(0, 1);
        boards.signOn(1, 1);
        Check.due("by boards", 3, Halls.ordered(boards, 0, 0, 0).dispatch());
        Check.due("0 before 1 before 3", "2 1 3", Halls.filled(boards));

        HiringHall chain = Halls.ordered(Halls.of(3, 6, 12, 24, 17), 0, 1, 2, 3, 4);
        Check.due("everybody fits by turning around", 5, chain.dispatch());
        Check.due("the lowest that leaves the others theirs", "0 1 2 3 4", Halls.filled(chain));

        HiringHall idle = Halls.ordered(Halls.of(0, 0), 0, 1, 2, 3, 4);
        idle.setRefusing(0, true);
        Check.due("nobody without skills", 0, idle.dispatch());
        Check.due("who cannot refuse either", 0, idle.refusalsOf(0));

        HiringHall wide = Halls.ordered(Halls.of(31, 31, 1), 0, 0);
        Check.due("who comes later is not waited for", 2, wide.dispatch());
        Check.due("the first two", "0 1", Halls.filled(wide));

        HiringHall many = new HiringHall();
        for (int i = 0; i < 30; i++) {
            many.signOn(3 - i % 4, 31);
        }
        for (int i = 0; i < 16; i++) {
            many.order(i % 5);
        }
        Check.due("16 of 30", 16, many.dispatch());
        Check.due("board 0, board 1, and two of board 2",
                "3 7 11 15 19 23 27 2 6 10 14 18 22 26 1 5", Halls.filled(many));
    }

    private static void dispatchGivesPlaces() {
        HiringHall hall = Halls.ordered(Halls.of(3, 1), 0, 1);
        Check.due("both", 2, hall.dispatch());
        Check.due("the first leaves the second the only place", "1 0", Halls.filled(hall));
        Check.due("in the order in which they were taken", "0 1", Halls.ranks(hall, 2));

        HiringHall lowest = Halls.ordered(Halls.of(3), 1, 0);
        Check.due("one for two places", 1, lowest.dispatch());
        Check.due("the lowest", "0 -1", Halls.filled(lowest));

        HiringHall same = Halls.ordered(Halls.of(2, 3, 1), 0, 1, 0, 1);
        Check.due("three for four", 3, same.dispatch());
        Check.due("the lowest of each", "1 0 2 -1", Halls.filled(same));

        HiringHall far = Halls.ordered(Halls.of(6, 5, 2), 2, 0, 1);
        Check.due("all three", 3, far.dispatch());
        Check.due("with their skills alone", "0 1 2", Halls.filled(far));

        HiringHall later = Halls.ordered(Halls.of(1, 3, 1), 0, 0, 1);
        Check.due("three once more", 3, later.dispatch());
        Check.due("places given before are gone for those after", "0 2 1", Halls.filled(later));
    }

    private static void dispatchAndRefusals() {
        HiringHall hall = Halls.ordered(Halls.of(1, 1, 2, 1, 1), 0, 0);
        hall.setRule(0, true, 0);
        hall.setRefusing(0, true);
        hall.setRefusing(2, true);
        hall.setRefusing(4, true);
        Check.due("two are taken", 2, hall.dispatch());
        Check.due("in turn", "1 3", Halls.filled(hall));
        Check.due("refusers above the taken", "2 3 0 4 1", Halls.ranks(hall, 5));
        Check.due("counted", 1, hall.refusalsOf(0));
        Check.due("not counted without the skill", 0, hall.refusalsOf(2));
        Check.due("not counted when all places are given", 0, hall.refusalsOf(4));

        HiringHall lenient = Halls.ordered(Halls.of(1, 1, 1), 0, 0, 0);
        lenient.setRefusing(0, true);
        Check.due("two of three", 2, lenient.dispatch());
        Check.due("the place is kept", "0 1 2", Halls.ranks(lenient, 3));
        Check.due("and still open", "1 2 -1", Halls.filled(lenient));
        Check.due("again nobody", 0, lenient.dispatch());
        Check.due("counted again", 2, lenient.refusalsOf(0));

        HiringHall all = Halls.ordered(Halls.of(1, 1, 1), 0);
        all.setRule(0, true, 0);
        for (int worker = 0; worker < 3; worker++) {
            all.setRefusing(worker, true);
        }
        Check.due("all refuse", 0, all.dispatch());
        Check.due("each once, by the turn as it was", "1 1 1",
                all.refusalsOf(0) + " " + all.refusalsOf(1) + " " + all.refusalsOf(2));
        Check.due("in the order of refusing", "0 1 2", Halls.ranks(all, 3));
        Check.due("nobody has been at work", 8, all.setHours(8));

        HiringHall two = Halls.ordered(Halls.of(1, 1), 0, 0);
        two.signOn(1, 1);
        two.signOn(1, 1);
        two.setRule(1, true, 0);
        two.setRefusing(0, true);
        two.setRefusing(2, true);
        Check.due("each board by its rule", 2, two.dispatch());
        Check.due("0 keeps the place, 2 loses it", "0 1 0 1", Halls.ranks(two, 4));
    }

    private static void dispatchInTheShift() {
        HiringHall hall = Halls.ordered(Halls.of(1, 1, 1, 1), 0, 0);
        hall.dispatch();
        hall.leave(0, 3);
        Check.due("a second gang", 1, hall.dispatch());
        Check.due("the open place, by one who has not been at work", "2 1", Halls.filled(hall));
        Check.due("nothing is open", 0, hall.dispatch());
        hall.order(0);
        hall.order(0);
        Check.due("a third gang", 1, hall.dispatch());
        Check.due("nobody is ready for the last", "2 1 3 -1", Halls.filled(hall));
        Check.due("who comes late works less", 3 + 8 + 5 + 5, hall.endShift());
        Check.due("from the hour of the shift", 5, hall.hoursOf(2));
        Check.due("in the next shift all are ready", 4, Halls.ordered(hall, 0, 0, 0, 0).dispatch());
    }

    private static void setHours() {
        HiringHall hall = Halls.ordered(Halls.of(1), 0);
        Check.due("8 hours before", 8, hall.setHours(12));
        Check.due("12 hours before", 12, hall.setHours(1));
        Check.due("1 hour before", 1, hall.setHours(10));
        hall.dispatch();
        Check.due("the shift to come included", 10, hall.endShift());
        Halls.ordered(hall, 0).dispatch();
        Check.due("those after it, too", 10, hall.endShift());
        Check.due("after the shift", 10, hall.setHours(9));
        int[] bad = {0, 13, -1, MIN, MAX};
        for (int hours : bad) {
            refusedByAll("setHours to " + hours, Check.ARGUMENT, h -> h.setHours(hours));
        }
        Check.refused("setHours at work", Check.STATE, Halls::busy, h -> h.setHours(8));
        Check.refused("setHours after work", Check.STATE, Halls::allLeftAtOnce, h -> h.setHours(8));
        Check.refused("setHours after work of one signed off", Check.STATE, Halls::leftAndSignedOff,
                h -> h.setHours(8));
    }

    private static void leave() {
        HiringHall hall = Halls.ordered(Halls.of(1, 1, 1), 0, 0, 0);
        hall.dispatch();
        Check.due("at the hour 0", 1, hall.leave(1, 0));
        Check.due("no hours", 0, hall.hoursOf(1));
        Check.due("the place is open", HiringHall.NONE, hall.workerAt(1));
        Check.due("not at work", HiringHall.NONE, hall.placeOf(1));
        Check.due("later", 0, hall.leave(0, 5));
        Check.due("five hours", 5, hall.hoursOf(0));
        Check.due("the rank stays", "0 1 2", Halls.ranks(hall, 3));
        Check.due("not back in time", Check.STATE, () -> hall.leave(2, 4));
        Check.due("in the same hour", 2, hall.leave(2, 5));
        Check.due("left already", Check.STATE, () -> hall.leave(2, 6));
        Check.due("all in all", 10, hall.endShift());
        Halls.ordered(hall, 0).dispatch();
        Check.due("the hour is 0 again, and all can be worked", 0, hall.leave(0, 8));
        Check.due("on top of those before", 13, hall.hoursOf(0));
        refusedByAll("leave of nobody", Check.NO_ELEMENT, h -> h.leave(6, 3));
        refusedByAll("leave of nobody at no hour", Check.NO_ELEMENT, h -> h.leave(-1, 9));
        int[] bad = {-1, 9, MIN, MAX};
        for (int hour : bad) {
            Check.refused("leave at " + hour, Check.ARGUMENT, Halls::busy, h -> h.leave(1, hour));
            Check.refused("leave, not at work, at " + hour, Check.ARGUMENT, Halls::busy,
                    h -> h.leave(0, hour));
        }
        Check.refused("leave in an hour past", Check.STATE, Halls::busy, h -> h.leave(1, 1));
        Check.refused("leave twice", Check.STATE, Halls::busy, h -> h.leave(0, 3));
        Check.refused("leave without work", Check.STATE, Halls::busy, h -> h.leave(4, 3));
        HiringHall brief = Halls.ordered(Halls.of(1), 0);
        brief.setHours(3);
        brief.dispatch();
        Check.due("after the end of a short shift", Check.ARGUMENT, () -> brief.leave(0, 4));
        Check.due("at the end of it", 0, brief.leave(0, 3));
    }

    private static void replace() {
        HiringHall hall = Halls.ordered(Halls.of(1, 2, 4, 3, 2), 0, 1);
        Check.due("a place that nobody filled", 1, hall.replace(1));
        Check.due("the replacement fills it", "-1 1", Halls.filled(hall));
        Check.due("and goes to the bottom", "0 4 1 2 3", Halls.ranks(hall, 5));
        hall.leave(1, 6);
        Check.due("a place that was filled", 3, hall.replace(1));
        Check.due("at the bottom", "0 3 1 4 2", Halls.ranks(hall, 5));
        hall.leave(3, 7);
        Check.due("the last with the skill", 4, hall.replace(1));
        hall.leave(4, 7);
        Check.due("nobody who has it is ready", HiringHall.NONE, hall.replace(1));
        Check.due("still open", HiringHall.NONE, hall.workerAt(1));
        Check.due("hours from the hour of the shift", "6 1 0",
                hall.hoursOf(1) + " " + hall.hoursOf(3) + " " + hall.hoursOf(4));
        hall.setAway(0, true);
        Check.due("nobody who is away", HiringHall.NONE, hall.replace(0));
        int[] nowhere = {-1, 2, 16, MIN, MAX};
        for (int place : nowhere) {
            refusedByAll("replace at " + place, Check.NO_ELEMENT, h -> h.replace(place));
        }
        Check.refused("replace at a filled place", Check.STATE, Halls::busy, h -> h.replace(1));
    }

    private static void replaceAndRefusals() {
        HiringHall hall = Halls.ordered(Halls.of(1, 2, 1, 1, 1), 0);
        hall.setRule(0, true, 0);
        int[] refusers = {0, 1, 2, 4};
        for (int worker : refusers) {
            hall.setRefusing(worker, true);
        }
        Check.due("the first who does not refuse", 3, hall.replace(0));
        Check.due("those ahead lose their places", "2 0 3 4 1", Halls.ranks(hall, 5));
        Check.due("those ahead with the skill refused", "1 0 1 0 0", hall.refusalsOf(0) + " " + hall.refusalsOf(1)
                + " " + hall.refusalsOf(2) + " " + hall.refusalsOf(3) + " " + hall.refusalsOf(4));
        hall.leave(3, 1);
        Check.due("all refuse", HiringHall.NONE, hall.replace(0));
        Check.due("each once more", "2 0 2 0 1", hall.refusalsOf(0) + " " + hall.refusalsOf(1)
                + " " + hall.refusalsOf(2) + " " + hall.refusalsOf(3) + " " + hall.refusalsOf(4));
        Check.due("by the turn as it was", "3 0 4 1 2", Halls.ranks(hall, 5));

        HiringHall lenient = Halls.ordered(Halls.of(1, 1), 0);
        lenient.setRefusing(0, true);
        Check.due("the second", 1, lenient.replace(0));
        Check.due("the first keeps the place", "0 1", Halls.ranks(lenient, 2));
    }

    private static void endShift() {
        HiringHall hall = Halls.ordered(Halls.of(1, 1, 1), 0, 0);
        hall.dispatch();
        hall.leave(0, 3);
        hall.replace(0);
        Check.due("hours of all", 16, hall.endShift());
        Check.due("of those at work to the end", 8, hall.hoursOf(1));
        Check.due("of one who came later", 5, hall.hoursOf(2));
        Check.due("there are no places then", 0, hall.places());
        Check.due("none at all", Check.NO_ELEMENT, () -> hall.workerAt(0));
        Check.due("nobody is at work", HiringHall.NONE, hall.placeOf(1));
        Check.due("those who left are ready again", 0, hall.nextUp(0));
        Check.due("nothing is counted twice", 0, hall.endShift());
        Check.due("a new shift can have other hours", 8, hall.setHours(4));
        Halls.ordered(hall, 0).dispatch();
        Check.due("from the hour 0", 4, hall.endShift());
        HiringHall gone = Halls.leftAndSignedOff();
        gone.signOn(0, 1);
        gone.dispatch();
        Check.due("the late one from the hour 0", 8, gone.endShift());
        HiringHall paid = Halls.busy();
        paid.signOff(0);
        Check.due("one signed off counts", 10, paid.endShift());
        Check.due("but only once", 0, paid.endShift());
    }

    private static void endPeriod() {
        HiringHall hall = Halls.ordered(Halls.of(1, 1, 1), 0, 0);
        hall.signOn(2, 1);
        hall.setRule(0, false, 10);
        hall.setRule(2, false, 400);
        hall.dispatch();
        hall.endShift();
        hall.setAway(2, true);
        Check.due("to those here", 2 + 2 + 400, hall.endPeriod());
        Check.due("hours are 0", 0, hall.hoursOf(0));
        Check.due("a period without shifts", 10 + 10 + 400, hall.endPeriod());
        Halls.ordered(hall, 0);
        hall.setRefusing(0, true);
        hall.setRefusing(1, true);
        hall.setRefusing(3, true);
        hall.setRule(2, true, 400);
        hall.replace(0);
        hall.replace(0);
        hall.setRefusing(0, false);
        hall.setAway(0, true);
        hall.replace(0);
        Check.due("two and three refusals", "2 3", hall.refusalsOf(0) + " " + hall.refusalsOf(1));
        hall.setAway(0, false);
        Check.due("nothing to those who refused 3 times", 10, hall.endPeriod());
        Check.due("refusals are 0", "0 0", hall.refusalsOf(0) + " " + hall.refusalsOf(1));
        Check.due("places stay", 1, hall.places());
        Check.due("and all are owed again", 10 + 10 + 400, hall.endPeriod());
        hall.signOff(3);
        Check.due("nothing to one signed off", 20, hall.endPeriod());
        hall.setAway(1, true);
        hall.setAway(0, true);
        hall.setAway(2, false);
        Check.due("nothing to those away", 10, hall.endPeriod());
        Check.refused("endPeriod at work", Check.STATE, Halls::busy, h -> h.endPeriod());
        Check.refused("endPeriod after work", Check.STATE, Halls::allLeftAtOnce, h -> h.endPeriod());
        Check.refused("endPeriod after work of one signed off", Check.STATE, Halls::leftAndSignedOff,
                h -> h.endPeriod());
    }

    // ---- 17 to 27: questions

    private static void questionsOfWorkers() {
        HiringHall hall = Halls.full();
        Check.due("workers", 30, hall.workers());
        hall.signOff(0);
        Check.due("workers, one fewer", 29, hall.workers());
        Check.due("workers after a refused call", 29, workersAfter(hall));
        Check.due("boardOf", "1 2 3 0", hall.boardOf(1) + " " + hall.boardOf(2) + " " + hall.boardOf(3) + " "
                + hall.boardOf(4));
        Check.due("rankOf at the top", 0, hall.rankOf(1));
        Check.due("rankOf after a signOff above", 0, hall.rankOf(4));
        Check.due("rankOf at the bottom", 6, hall.rankOf(28));
        Check.due("rankOf of the last", 7, hall.rankOf(29));
        HiringHall busy = Halls.busy();
        Check.due("placeOf at work", 1, busy.placeOf(1));
        Check.due("placeOf after leaving", HiringHall.NONE, busy.placeOf(0));
        Check.due("placeOf without work", HiringHall.NONE, busy.placeOf(5));
        Check.due("refusalsOf one who could not be taken", 0, busy.refusalsOf(2));
        busy.replace(0);
        Check.due("refusalsOf", 1, busy.refusalsOf(2));
        int[] nobody = {-1, 6, 30, MIN, MAX};
        for (int worker : nobody) {
            refusedByAll("boardOf " + worker, Check.NO_ELEMENT, h -> h.boardOf(worker));
            refusedByAll("rankOf " + worker, Check.NO_ELEMENT, h -> h.rankOf(worker));
            refusedByAll("hoursOf " + worker, Check.NO_ELEMENT, h -> h.hoursOf(worker));
            refusedByAll("refusalsOf " + worker, Check.NO_ELEMENT, h -> h.refusalsOf(worker));
            refusedByAll("placeOf " + worker, Check.NO_ELEMENT, h -> h.placeOf(worker));
            refusedByAll("owedTo " + worker, Check.NO_ELEMENT, h -> h.owedTo(worker));
        }
    }

    private static int workersAfter(HiringHall hall) {
        Check.due("signOn to no board", Check.ARGUMENT, () -> hall.signOn(4, 4));
        return hall.workers();
    }

    private static void hoursOf() {
        HiringHall hall = Halls.ordered(Halls.of(1, 1), 0, 0);
        hall.dispatch();
        Check.due("without those of the shift that is on", 0, hall.hoursOf(0));
        hall.leave(0, 7);
        Check.due("unless the worker left it", 7, hall.hoursOf(0));
        Check.due("the other is still at work", 0, hall.hoursOf(1));
        hall.endShift();
        Check.due("with those of the shift that ended", 8, hall.hoursOf(1));
        Halls.ordered(hall, 0, 0).dispatch();
        hall.endShift();
        Check.due("of all shifts of the period", "15 16", hall.hoursOf(0) + " " + hall.hoursOf(1));
        hall.endPeriod();
        Check.due("of this period alone", 0, hall.hoursOf(1));
    }

    private static void owedTo() {
        HiringHall hall = Halls.ordered(Halls.of(1, 1), 0);
        Check.due("nothing is guaranteed", 0, hall.owedTo(0));
        hall.setRule(0, false, 9);
        Check.due("all that is guaranteed", 9, hall.owedTo(0));
        hall.dispatch();
        Check.due("the shift that is on does not count", 9, hall.owedTo(0));
        hall.leave(0, 8);
        Check.due("the rest", 1, hall.owedTo(0));
        hall.setRule(0, false, 8);
        Check.due("as many", 0, hall.owedTo(0));
        hall.setRule(0, false, 7);
        Check.due("more than guaranteed", 0, hall.owedTo(0));
        hall.setRule(2, false, 400);
        hall.move(0, 2);
        Check.due("by the board", 392, hall.owedTo(0));
        hall.setAway(0, true);
        Check.due("nothing to one away", 0, hall.owedTo(0));
        hall.setRefusing(1, true);
        hall.replace(0);
        hall.replace(0);
        Check.due("two refusals", 7, hall.owedTo(1));
        hall.replace(0);
        Check.due("three refusals", 0, hall.owedTo(1));
        hall.replace(0);
        Check.due("four refusals", 0, hall.owedTo(1));
        hall.endShift();
        Check.due("refusals count for the period", 0, hall.owedTo(1));
    }

    private static void questionsOfPlaces() {
        HiringHall hall = Halls.ordered(Halls.of(1, 1), 0, 4, 0);
        Check.due("places", 3, hall.places());
        hall.dispatch();
        Check.due("workerAt", "0 -1 1", Halls.filled(hall));
        Check.due("places, filled ones too", 3, hall.places());
        hall.leave(0, 1);
        Check.due("workerAt a place that was left", HiringHall.NONE, hall.workerAt(0));
        int[] nowhere = {-1, 2, 16, MIN, MAX};
        for (int place : nowhere) {
            refusedByAll("workerAt " + place, Check.NO_ELEMENT, h -> h.workerAt(place));
        }
        hall.endShift();
        Check.due("no places after the shift", 0, hall.places());
        Check.due("no such place after the shift", Check.NO_ELEMENT, () -> hall.workerAt(2));
    }

    private static void nextUp() {
        HiringHall hall = Halls.ordered(Halls.of(1, 2, 4), 0);
        hall.signOn(3, 0);
        Check.due("the top", 0, hall.nextUp(0));
        Check.due("the top of another board, even without skills", 3, hall.nextUp(3));
        Check.due("an empty board", HiringHall.NONE, hall.nextUp(1));
        hall.dispatch();
        Check.due("not one at work", 1, hall.nextUp(0));
        hall.leave(0, 0);
        hall.move(1, 0);
        hall.move(2, 0);
        Check.due("not one who has been at work, even at the top", "0 1", hall.rankOf(0) + " " + hall.nextUp(0));
        hall.setRefusing(1, true);
        Check.due("one who refuses is ready", 1, hall.nextUp(0));
        hall.setAway(1, true);
        Check.due("one away is not", 2, hall.nextUp(0));
        hall.setAway(2, true);
        Check.due("nobody", HiringHall.NONE, hall.nextUp(0));
        hall.endShift();
        Check.due("ready again after the shift", 0, hall.nextUp(0));
        int[] badBoards = {-1, 4, MIN, MAX};
        for (int bad : badBoards) {
            refusedByAll("nextUp of board " + bad, Check.ARGUMENT, h -> h.nextUp(bad));
        }
    }

    private static void fillable() {
        HiringHall hall = Halls.ordered(Halls.of(3, 1, 1, 0), 0, 1, 2);
        Check.due("each by another one", 2, hall.fillable());
        Check.due("asking changes nothing", 2, hall.fillable());
        hall.setRefusing(0, true);
        Check.due("not by one who refuses", 1, hall.fillable());
        Check.due("asking is no refusal", 0, hall.refusalsOf(0));
        hall.setRefusing(0, false);
        hall.setAway(0, true);
        Check.due("not by one away", 1, hall.fillable());
        hall.setAway(0, false);
        hall.dispatch();
        Check.due("places that are filled are not", 0, hall.fillable());
        hall.signOn(2, 4);
        Check.due("one more for the open place", 1, hall.fillable());
        hall.leave(1, 4);
        Check.due("nobody who has been at work", 2, hall.fillable());
        hall.signOff(2);
        Check.due("nor one signed off", 1, hall.fillable());

        HiringHall turned = Halls.ordered(Halls.of(1, 3, 6), 2, 1, 0);
        Check.due("by turning around", 3, turned.fillable());
        Check.due("more than there are", 1, Halls.ordered(Halls.of(31, 31, 31), 4).fillable());
        Check.due("fewer than there are", 1, Halls.ordered(Halls.of(31), 0, 1, 2).fillable());
        HiringHall unskilled = Halls.ordered(Halls.of(0, 0, 16), 0, 0, 1, 1, 2, 2, 3, 3, 4, 4);
        Check.due("none without skills", 1, unskilled.fillable());
        Check.due("and those asked about are not remembered", 1, unskilled.dispatch());
        Check.due("none with the skill", 0, Halls.ordered(Halls.of(15, 15), 4, 4).fillable());
        Check.due("two by two", 4, Halls.ordered(Halls.of(1, 1, 1, 6, 6, 6), 0, 0, 1, 2).fillable());
    }
}
