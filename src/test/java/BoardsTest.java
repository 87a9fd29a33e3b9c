import java.util.function.Supplier;

/** The sentences of the promises 1 to 9, workers and boards, in the order of the document. */
public final class BoardsTest {
    private static final String WORKER = "`worker`: the worker";
    private static final String NOBODY = "Throws `NoSuchElementException` if there is no such worker";
    private static final String BOARD = "`board`: 0 to 3";
    private static final String NO_BOARD = "Throws `IllegalArgumentException` if board is out of range";
    private static final Document DOCUMENT = new Document("Promise [1-9]: .*");

    private BoardsTest() {
    }

    public static void main(String[] args) {
        newObject();
        signOn();
        signOff();
        setSkills();
        move();
        setAway();
        setRefusing();
        setRule();
        equalise();
        DOCUMENT.end();
        Check.end("BoardsTest");
    }

    private static void newObject() {
        DOCUMENT.section("Promise 1: A new object");
        DOCUMENT.says("Creates a hall without workers; no refusal costs the place; shifts have 8 hours.");
        HiringHall hall = new HiringHall();
        Check.due("no workers", 0, hall.workers());
        Check.due("not even the first", Check.NO_ELEMENT, () -> hall.boardOf(0));
        Check.due("no places", 0, hall.places());
        Check.due("not even the first", Check.NO_ELEMENT, () -> hall.workerAt(0));
        Check.due("nothing to fill", 0, hall.fillable());
        Check.due("nobody to dispatch", 0, hall.dispatch());
        Check.due("nothing owed", 0, hall.endPeriod());
        Check.due("no work", 0, hall.endShift());
        Check.due("shifts have 8 hours", 8, hall.setHours(8));
        Check.due("a worked one, too", 8, Halls.atWork(1).endShift());
        for (int board = 0; board < 4; board++) {
            Check.due("nobody up", HiringHall.NONE, hall.nextUp(board));
            HiringHall refusing = Halls.refusing(Halls.ordered(Halls.onBoards(board, board), 0, 1), 0);
            refusing.setSkills(1, 0);
            refusing.replace(0);
            Check.due("a refused replacement does not cost the place", 0, refusing.rankOf(0));
            refusing.dispatch();
            Check.due("nor a refused dispatch", 0, refusing.rankOf(0));
        }
        HiringHall other = new HiringHall();
        other.signOn(0, 1);
        other.order(0);
        Check.due("one hall is not the other", "0 0", hall.workers() + " " + hall.places());
    }

    private static void signOn() {
        DOCUMENT.section("Promise 2: signOn");
        DOCUMENT.says("Signs a worker on, at the bottom of a board.");
        HiringHall hall = new HiringHall();
        hall.signOn(2, 1);
        Check.due("the top of an empty board", "2 0", hall.boardOf(0) + " " + hall.rankOf(0));
        hall.signOn(2, 1);
        hall.signOn(1, 1);
        hall.signOn(2, 1);
        hall.signOn(3, 1);
        hall.signOn(0, 1);
        Check.due("the bottom of each", "0 1 0 2 0 0", Halls.ranks(hall, 6));
        hall.move(0, 2);
        hall.signOn(2, 1);
        Check.due("below one who went to the bottom", "2 3", hall.rankOf(0) + " " + hall.rankOf(6));
        HiringHall busy = Halls.atWork(2);
        busy.signOn(0, 1);
        Check.due("below those at work", 2, busy.rankOf(2));
        Check.due("and ready in the middle of the shift", 2, busy.nextUp(0));
        Check.due("without hours, refusals, and a place", "0 0 -1",
                busy.hoursOf(2) + " " + busy.refusalsOf(2) + " " + busy.placeOf(2));

        DOCUMENT.says(BOARD, "`skills`: 0 to 31",
                "Throws `IllegalArgumentException` if board or skills is out of range");
        Ranges.within("signOn, board", 0, 3, HiringHall::new, (h, board) -> h.signOn(board, 31));
        Ranges.within("signOn, board of a busy hall", 0, 3, Halls::busy, (h, board) -> h.signOn(board, 0));
        Ranges.within("signOn, skills", 0, 31, HiringHall::new, (h, skills) -> h.signOn(3, skills));
        Ranges.within("signOn, skills in a busy hall", 0, 31, Halls::busy, (h, skills) -> h.signOn(0, skills));
        Check.refused("signOn, both", Check.ARGUMENT, Halls::busy, h -> h.signOn(-1, -1));
        Check.refused("signOn, board, though full", Check.ARGUMENT, Halls::full, h -> h.signOn(4, 31));
        Check.refused("signOn, skills, though full", Check.ARGUMENT, Halls::full, h -> h.signOn(3, 32));
        Check.refused("signOn, both, though full", Check.ARGUMENT, Halls::full, h -> h.signOn(4, 32));

        DOCUMENT.says("Returns the number of the worker.");
        HiringHall numbers = new HiringHall();
        for (int number = 0; number < 30; number++) {
            Check.due("the number", number, numbers.signOn(3 - number % 4, 31 - number));
            Check.due("is that of the worker", 3 - number % 4, numbers.boardOf(number));
            Check.due("by the skills, too", 31 - number, numbers.setSkills(number, 0));
        }
        numbers.signOff(12);
        Check.due("the next number, not the free one", 30, numbers.signOn(0, 0));

        DOCUMENT.says("Throws `IllegalStateException` if 30 workers are signed on");
        Supplier<HiringHall> almost = () -> {
            HiringHall h = Halls.full();
            h.signOff(3);
            return h;
        };
        Check.due("29 are signed on", 30, almost.get().signOn(0, 31));
        Check.refused("30 are", Check.STATE, Halls::full, h -> h.signOn(0, 31));
        Check.refused("30 are, on another board", Check.STATE, () -> Halls.crowded(3), h -> h.signOn(0, 0));
        Check.refused("30 are, 16 of them at work", Check.STATE, Halls::fullAtWork, h -> h.signOn(3, 1));
        Check.refused("30 are again", Check.STATE, () -> {
            HiringHall h = almost.get();
            h.signOn(0, 31);
            return h;
        }, h -> h.signOn(0, 31));
        Check.refused("30 are, though away", Check.STATE, () -> {
            HiringHall h = Halls.full();
            h.setAway(0, true);
            return h;
        }, h -> h.signOn(0, 31));
    }

    private static void signOff() {
        DOCUMENT.section("Promise 3: signOff");
        DOCUMENT.says("Signs a worker off; there is no such worker then.");
        for (int gone = 0; gone < 3; gone++) {
            int w = gone;
            HiringHall hall = Halls.ordered(Halls.of(1, 1, 1), 0, 0, 0);
            hall.signOff(w);
            Check.due("one fewer", 2, hall.workers());
            Check.due("no such worker", Check.NO_ELEMENT, () -> hall.rankOf(w));
            Check.due("no such worker to sign off", Check.NO_ELEMENT, () -> hall.signOff(w));
            Check.due("nor to be up", w == 0 ? 1 : 0, hall.nextUp(0));
            Check.due("those below move up", 1, hall.rankOf(w == 2 ? 1 : 2));
            Check.due("nor to fill", 2, hall.fillable());
            Check.due("nor to be taken", 2, hall.dispatch());
            hall.setRule(0, false, 10);
            hall.endShift();
            Check.due("nor to be owed", 2 * 2, hall.endPeriod());
        }
        HiringHall last = Halls.of(31);
        last.signOff(0);
        Check.due("the last of a hall", "0 -1", last.workers() + " " + last.nextUp(0));

        DOCUMENT.says("Returns how many hours the worker has in this period.");
        Check.due("none", 0, Halls.worked(0, 8).signOff(0));
        Check.due("those of one shift", 12, Halls.worked(1, 12).signOff(0));
        Check.due("those of three shifts", 3, Halls.worked(3, 1).signOff(0));
        Check.due("not those of others", 0, Halls.worked(3, 12).signOff(1));
        HiringHall period = Halls.worked(3, 12);
        period.endPeriod();
        Check.due("not those of the period before", 0, period.signOff(0));
        HiringHall left = Halls.worked(1, 12);
        Halls.ordered(left, 0).dispatch();
        left.leave(0, 5);
        Check.due("those of the shift that is on, too", 17, left.signOff(0));

        DOCUMENT.says(WORKER, NOBODY);
        Ranges.worker("signOff", HiringHall::signOff);

        DOCUMENT.says("Throws `IllegalStateException` if the worker is at work");
        Check.refused("at work since a dispatch", Check.STATE, () -> Halls.atWork(2), h -> h.signOff(0));
        Check.refused("at work at the last place", Check.STATE, Halls::fullAtWork, h -> h.signOff(15));
        Check.refused("at work since a replacement", Check.STATE, () -> {
            HiringHall h = Halls.ordered(Halls.of(1, 1), 0);
            h.replace(0);
            return h;
        }, h -> h.signOff(0));
        Check.refused("at work though away", Check.STATE, () -> {
            HiringHall h = Halls.atWork(1);
            h.setAway(0, true);
            return h;
        }, h -> h.signOff(0));
        Check.due("not at work, while others are", 0, Halls.fullAtWork().signOff(16));
        HiringHall ended = Halls.atWork(1);
        ended.endShift();
        Check.due("not at work any more", 8, ended.signOff(0));
        Check.due("not at work any more", 2, Halls.busy().signOff(0));
    }

    private static void setSkills() {
        DOCUMENT.section("Promise 4: setSkills");
        DOCUMENT.says("Changes the skills of a worker.");
        HiringHall hall = Halls.ordered(Halls.of(1, 1), 4, 0);
        hall.setSkills(0, 16);
        Check.due("the new skill, and the other's", 2, hall.fillable());
        hall.dispatch();
        Check.due("each by the skills", "0 1", Halls.filled(hall));
        HiringHall none = Halls.ordered(Halls.of(31, 31), 0, 0);
        none.setSkills(1, 0);
        Check.due("no skills any more", 1, none.dispatch());
        Check.due("for the other", "0 -1", Halls.filled(none));
        HiringHall order = Halls.of(1, 1, 1);
        order.setSkills(0, 2);
        Check.due("the rank stays", "0 1 2", Halls.ranks(order, 3));

        DOCUMENT.says("Returns the skills before.");
        for (int set = 0; set < 32; set++) {
            HiringHall told = Halls.of(set, 31);
            Check.due("the skills signed on with", set, told.setSkills(0, 31 - set));
            Check.due("those told since", 31 - set, told.setSkills(0, set));
            Check.due("the other's are the other's", 31, told.setSkills(1, set));
        }

        DOCUMENT.says(WORKER, NOBODY);
        Ranges.worker("setSkills", (h, worker) -> h.setSkills(worker, 3));
        Check.refused("nobody before a wrong argument", Check.NO_ELEMENT, Halls::busy, h -> h.setSkills(6, 32));

        DOCUMENT.says("`skills`: 0 to 31", "Throws `IllegalArgumentException` if skills is out of range");
        Ranges.within("setSkills", 0, 31, Halls::full, (h, skills) -> h.setSkills(29, skills));
        Ranges.within("setSkills of one who left", 0, 31, Halls::busy, (h, skills) -> h.setSkills(0, skills));
        Check.refused("argument before state", Check.ARGUMENT, Halls::busy, h -> h.setSkills(1, 32));
        Check.refused("argument before state", Check.ARGUMENT, Halls::busy, h -> h.setSkills(1, -1));

        DOCUMENT.says("Throws `IllegalStateException` if the worker is at work");
        Check.refused("at work", Check.STATE, Halls::busy, h -> h.setSkills(1, 0));
        Check.refused("at work, as before", Check.STATE, Halls::busy, h -> h.setSkills(1, 3));
        Check.refused("at work at the last place", Check.STATE, Halls::fullAtWork, h -> h.setSkills(15, 31));
        Check.due("not at work, while others are", 31, Halls.fullAtWork().setSkills(16, 0));
        Check.due("not at work any more", 1, Halls.busy().setSkills(0, 0));
    }

    private static void move() {
        DOCUMENT.section("Promise 5: move");
        DOCUMENT.says("Moves a worker to the bottom of a board, which may be the worker's own.");
        HiringHall hall = Halls.onBoards(0, 0, 0, 3, 3);
        hall.move(0, 0);
        Check.due("from the top to the bottom of the own board", "2 0 1 0 1", Halls.ranks(hall, 5));
        hall.move(0, 0);
        Check.due("at the bottom already", "2 0 1 0 1", Halls.ranks(hall, 5));
        hall.move(2, 3);
        Check.due("to the bottom of another", "1 0 2 0 1", Halls.ranks(hall, 5));
        Check.due("on that one", 3, hall.boardOf(2));
        hall.move(3, 1);
        Check.due("to an empty one", "1 0 1 0 0", Halls.ranks(hall, 5));
        hall.move(3, 0);
        Check.due("up to the first board", "1 0 1 2 0", Halls.ranks(hall, 5));
        Check.due("which leaves nobody", HiringHall.NONE, hall.nextUp(1));
        HiringHall busy = Halls.atWork(2);
        busy.move(0, 2);
        Check.due("at work, one stays at work", 0, busy.placeOf(0));
        Check.due("on the other board", "2 0", busy.boardOf(0) + " " + busy.rankOf(0));
        Check.due("and works to the end", 16, busy.endShift());
        HiringHall keeps = Halls.refused(2);
        keeps.setAway(0, true);
        keeps.move(0, 3);
        Check.due("refusals stay", 2, keeps.refusalsOf(0));
        Check.due("and what was told", "true true", keeps.setAway(0, true) + " " + keeps.setRefusing(0, true));
        HiringHall hours = Halls.worked(2, 12);
        hours.move(0, 1);
        Check.due("hours stay", 24, hours.hoursOf(0));

        DOCUMENT.says("Returns the board before.");
        for (int from = 0; from < 4; from++) {
            for (int to = 0; to < 4; to++) {
                HiringHall moved = Halls.onBoards(from);
                Check.due("the board before", from, moved.move(0, to));
                Check.due("which is the new one then", to, moved.move(0, from));
            }
        }

        DOCUMENT.says(WORKER, NOBODY);
        Ranges.worker("move", (h, worker) -> h.move(worker, 2));
        Check.refused("nobody before a wrong argument", Check.NO_ELEMENT, Halls::busy, h -> h.move(6, 4));
        Check.refused("nobody before a wrong argument", Check.NO_ELEMENT, HiringHall::new, h -> h.move(0, -1));

        DOCUMENT.says(BOARD, NO_BOARD);
        Ranges.within("move", 0, 3, Halls::full, (h, board) -> h.move(29, board));
        Ranges.within("move of one at work", 0, 3, Halls::busy, (h, board) -> h.move(1, board));
    }

    private static void setAway() {
        DOCUMENT.section("Promise 6: setAway");
        DOCUMENT.says("Tells that a worker is away, or here again.");
        HiringHall hall = Halls.ordered(Halls.of(1, 1), 0);
        hall.setAway(0, true);
        Check.due("away, so the next is up", 1, hall.nextUp(0));
        Check.due("the rank stays", 0, hall.rankOf(0));
        hall.setAway(0, false);
        Check.due("here again, so the first is", 0, hall.nextUp(0));
        hall.setAway(0, false);
        Check.due("here still", 0, hall.nextUp(0));
        HiringHall refuser = Halls.refusing(Halls.ordered(Halls.of(1), 0), 0);
        refuser.setAway(0, true);
        refuser.dispatch();
        refuser.replace(0);
        Check.due("one away is not asked", 0, refuser.refusalsOf(0));
        HiringHall all = Halls.crowded(1);
        for (int worker = 0; worker < 30; worker++) {
            all.setAway(worker, true);
        }
        Check.due("all 30 are away", HiringHall.NONE, all.nextUp(1));
        Check.due("and signed on", 30, all.workers());
        all.setAway(29, false);
        Check.due("but the last", 29, all.nextUp(1));

        DOCUMENT.says("A worker at work stays at work.");
        HiringHall busy = Halls.atWork(2);
        busy.setAway(0, true);
        Check.due("at the place", 0, busy.placeOf(0));
        Check.due("which is not open", "0 1", Halls.filled(busy));
        busy.setAway(0, false);
        Check.due("at the place still", 0, busy.placeOf(0));
        busy.setAway(1, true);
        Check.due("both to the end", 16, busy.endShift());
        Check.due("one away with the hours, too", "8 8", Halls.hours(busy, 2));

        DOCUMENT.says("`isAway`: whether the worker is away", "Returns true if the worker was away before.");
        boolean[] values = {false, true};
        for (boolean before : values) {
            for (boolean now : values) {
                HiringHall told = Halls.of(1, 1);
                told.setAway(0, before);
                Check.due("before", before, told.setAway(0, now));
                Check.due("now", now, told.setAway(0, before));
                Check.due("the other is here", false, told.setAway(1, false));
                told.setAway(0, now);
                told.endShift();
                told.endPeriod();
                Check.due("in the next shift and period, too", now, told.setAway(0, now));
            }
        }

        DOCUMENT.says(WORKER, NOBODY);
        Ranges.worker("setAway", (h, worker) -> h.setAway(worker, true));
        Ranges.worker("setAway, here", (h, worker) -> h.setAway(worker, false));
    }

    private static void setRefusing() {
        DOCUMENT.section("Promise 7: setRefusing");
        DOCUMENT.says("Tells whether a worker refuses.");
        HiringHall hall = Halls.ordered(Halls.of(1, 1, 1), 0, 0);
        hall.setRefusing(0, true);
        Check.due("those who do not refuse", 2, hall.fillable());
        Check.due("telling is not refusing", 0, hall.refusalsOf(0));
        Check.due("nor does it cost readiness", 0, hall.nextUp(0));
        hall.setRefusing(1, true);
        hall.setRefusing(0, false);
        hall.dispatch();
        Check.due("by the last telling", "0 2", Halls.filled(hall));
        Check.due("one refusal", "0 1 0", Halls.refusals(hall, 3));

        DOCUMENT.says("`refuses`: whether the worker refuses from now on, until the shift ends");
        HiringHall until = Halls.refusing(Halls.ordered(Halls.of(1), 0), 0);
        for (int times = 1; times < 4; times++) {
            Check.due("refuses a dispatch", 0, until.dispatch());
            Check.due("refuses a replacement", HiringHall.NONE, until.replace(0));
            Check.due("each time", 2 * times, until.refusalsOf(0));
        }
        until.endShift();
        Check.due("until the shift ends", 1, Halls.ordered(until, 0).dispatch());
        HiringHall atWork = Halls.atWork(2);
        Halls.refusing(atWork, 0);
        Check.due("one at work stays at work", "0 1", Halls.filled(atWork));
        Check.due("but was told to refuse", true, atWork.setRefusing(0, true));
        atWork.endShift();
        Check.due("and refuses no more in the next", 2, Halls.ordered(atWork, 0, 0).dispatch());

        DOCUMENT.says("Returns true if it was told before that the worker refuses.");
        boolean[] values = {false, true};
        for (boolean before : values) {
            for (boolean now : values) {
                HiringHall told = Halls.of(1, 1);
                Check.due("at first", false, told.setRefusing(0, before));
                Check.due("before", before, told.setRefusing(0, now));
                Check.due("now", now, told.setRefusing(0, before));
                Check.due("the other was not told", false, told.setRefusing(1, false));
                told.setRefusing(0, now);
                told.endPeriod();
                Check.due("in the next period", now, told.setRefusing(0, now));
                told.endShift();
                Check.due("but not in the next shift", false, told.setRefusing(0, now));
            }
        }

        DOCUMENT.says(WORKER, NOBODY);
        Ranges.worker("setRefusing", (h, worker) -> h.setRefusing(worker, true));
        Ranges.worker("setRefusing no more", (h, worker) -> h.setRefusing(worker, false));
    }

    private static void setRule() {
        DOCUMENT.section("Promise 8: setRule");
        DOCUMENT.says("Sets the rule of a board.");
        HiringHall hall = Halls.onBoards(0, 1, 2, 3);
        hall.setRule(1, true, 20);
        hall.setRule(3, false, 5);
        Check.due("each board has its own", "0 20 0 5",
                hall.owedTo(0) + " " + hall.owedTo(1) + " " + hall.owedTo(2) + " " + hall.owedTo(3));
        hall.endShift();
        hall.endPeriod();
        Check.due("it stays", 20, hall.owedTo(1));

        DOCUMENT.says("`costs`: whether a refusal costs the place on this board");
        for (int board = 0; board < 4; board++) {
            Check.due("it costs the place", "1 0", ranksAfterRefusal(board, true));
            Check.due("it does not", "0 1", ranksAfterRefusal(board, false));
        }

        DOCUMENT.says("`guaranteed`: 0 to 400: the guaranteed hours of a period", BOARD,
                "Throws `IllegalArgumentException` if board or guaranteed is out of range");
        Ranges.board("setRule", (h, board) -> h.setRule(board, true, 1));
        Ranges.within("setRule, guaranteed", 0, 400, Halls::full, (h, hours) -> h.setRule(3, true, hours));
        Ranges.within("setRule, guaranteed", 0, 400, HiringHall::new, (h, hours) -> h.setRule(0, false, hours));
        Check.refused("both", Check.ARGUMENT, Halls::busy, h -> h.setRule(-1, false, 401));
        HiringHall most = Halls.onBoards(2);
        most.setRule(2, false, 400);
        Check.due("400 hours", 400, most.endPeriod());
        most.setRule(2, false, 0);
        Check.due("no hours", 0, most.endPeriod());

        DOCUMENT.says("Returns the guaranteed hours before.");
        HiringHall told = new HiringHall();
        for (int board = 0; board < 4; board++) {
            int b = board;
            Check.due("0 at first", 0, told.setRule(b, true, 400 - b));
            Check.due("then what was told", 400 - b, told.setRule(b, false, 0));
            Check.due("0, too", 0, told.setRule(b, false, 10 + b));
            Check.due("not what was refused", Check.ARGUMENT, () -> told.setRule(b, false, 401));
        }
        for (int board = 0; board < 4; board++) {
            Check.due("of each board", 10 + board, told.setRule(board, true, 0));
        }
    }

    /** Of two workers the first is asked, and refuses, after the rule has been the other one for a while. */
    private static String ranksAfterRefusal(int board, boolean costs) {
        HiringHall hall = Halls.refusing(Halls.ordered(Halls.onBoards(board, board), 0), 0);
        hall.setSkills(1, 2);
        for (int other = 0; other < 4; other++) {
            hall.setRule(other, !costs, 7);
        }
        hall.setRule(board, costs, 7);
        hall.replace(0);
        return Halls.ranks(hall, 2);
    }

    private static void equalise() {
        DOCUMENT.section("Promise 9: equalise");
        DOCUMENT.says("Orders a board anew: those with fewer hours in this period come first, those with as many stay"
                + " in their order.");
        HiringHall hall = withHours(5, 3, 5, 0, 3, 8);
        hall.equalise(0);
        Check.due("fewer first, as many in their order", "3 1 4 0 2 5", Halls.ranks(hall, 6));
        HiringHall next = withHours(1, 0, 0);
        Check.due("one hour is enough", "2 0 1", ranksOfEqualised(next));
        Check.due("sorted", "0 1 2", ranksOfEqualised(withHours(0, 1, 8)));
        Check.due("the other way round", "2 1 0", ranksOfEqualised(withHours(8, 1, 0)));
        Check.due("all alike", "0 1 2", ranksOfEqualised(withHours(4, 4, 4)));
        HiringHall period = withHours(8, 1, 0);
        period.endPeriod();
        Check.due("hours of the period before do not count", "0 1 2", ranksOfEqualised(period));
        HiringHall shift = Halls.atWork(1);
        shift.signOn(0, 1);
        Check.due("nor those of the shift that is on", "0 1", ranksOfEqualised(shift));
        shift.leave(0, 1);
        Check.due("unless one left it", "1 0", ranksOfEqualised(shift));
        HiringHall boards = withHours(8, 1, 0);
        boards.move(0, 1);
        boards.signOn(1, 1);
        boards.equalise(0);
        Check.due("no other board", "1 0 0 1", boards.rankOf(1) + " " + boards.rankOf(2) + " " + boards.rankOf(0) + " "
                + boards.rankOf(3));
        boards.equalise(1);
        Check.due("until that is asked for", "1 0", boards.rankOf(0) + " " + boards.rankOf(3));
        HiringHall atWork = Halls.ordered(withHours(8, 0, 4), 0, 0, 0);
        atWork.dispatch();
        Check.due("those at work, too", "2 0 1", ranksOfEqualised(atWork));
        Check.due("who stay at work", "0 1 2", Halls.filled(atWork));
        HiringHall away = withHours(8, 0, 4);
        away.setAway(0, true);
        away.setAway(1, true);
        Check.due("and those away", "2 0 1", ranksOfEqualised(away));
        HiringHall turn = withHours(8, 4, 2, 0);
        turn.move(2, 1);
        turn.move(3, 1);
        Check.due("two of the second board", 2, turn.equalise(1));
        Halls.ordered(turn, 0, 0, 0, 0).dispatch();
        Check.due("nobody passes those of the board before", "0 1 3 2", Halls.filled(turn));

        DOCUMENT.says("Returns how many workers of the board have another place then.");
        Check.due("an empty board", 0, new HiringHall().equalise(3));
        Check.due("one worker", 0, withHours(8).equalise(0));
        Check.due("none", 0, withHours(0, 1, 8).equalise(0));
        Check.due("two", 2, withHours(0, 8, 1).equalise(0));
        Check.due("two of three", 2, withHours(8, 1, 0).equalise(0));
        Check.due("three", 3, withHours(8, 0, 1).equalise(0));
        Check.due("asked again", 0, equalised(withHours(8, 0, 1)).equalise(0));
        HiringHall crowded = Halls.crowded(2);
        Halls.ordered(crowded, 0).dispatch();
        crowded.endShift();
        crowded.move(0, 0);
        for (int worker = 1; worker < 30; worker++) {
            crowded.move(worker, 0);
        }
        Check.due("30 workers", 30, crowded.equalise(0));
        Check.due("the one with hours to the bottom", "29 0 28",
                crowded.rankOf(0) + " " + crowded.rankOf(1) + " " + crowded.rankOf(29));
        Check.asked("an ordered board", 0, Halls::busy, h -> h.equalise(2));

        DOCUMENT.says(BOARD, NO_BOARD);
        Ranges.board("equalise", HiringHall::equalise);
    }

    private static HiringHall equalised(HiringHall hall) {
        hall.equalise(0);
        return hall;
    }

    private static String ranksOfEqualised(HiringHall hall) {
        return Halls.ranks(equalised(hall), hall.workers());
    }

    /** Workers 0, 1, .. in this order on board 0, each with the hours told, which are 8 at most. */
    private static HiringHall withHours(int... hours) {
        HiringHall hall = Halls.atWork(hours.length);
        for (int hour = 0; hour <= 8; hour++) {
            for (int worker = 0; worker < hours.length; worker++) {
                if (hours[worker] == hour) {
                    hall.leave(worker, hour);
                }
            }
        }
        hall.endShift();
        return hall;
    }
}
