import java.util.function.Supplier;

/** The sentences of the promises 17 to 27, questions, in the order of the document. No question changes anything. */
public final class QuestionsTest {
    private static final String WORKER = "`worker`: the worker";
    private static final String NOBODY = "Throws `NoSuchElementException` if there is no such worker";
    private static final Document DOCUMENT = new Document("Promise (1[7-9]|2\\d+): .*");

    private QuestionsTest() {
    }

    public static void main(String[] args) {
        workers();
        boardOf();
        rankOf();
        hoursOf();
        refusalsOf();
        placeOf();
        owedTo();
        places();
        workerAt();
        nextUp();
        fillable();
        DOCUMENT.end();
        Check.end("QuestionsTest");
    }

    private static void workers() {
        DOCUMENT.section("Promise 17: workers");
        DOCUMENT.says("Returns how many workers are signed on.");
        HiringHall hall = new HiringHall();
        for (int number = 0; number < 30; number++) {
            Check.due("so many", number, hall.workers());
            hall.signOn(number % 4, 0);
        }
        for (int number = 29; number >= 0; number--) {
            hall.signOff(number);
            Check.due("so many are left", number, hall.workers());
        }
        Check.due("those at work and away, too", 6, Halls.busy().workers());
        Check.asked("asking", 6, Halls::busy, HiringHall::workers);

        DOCUMENT.says("Returns 0 to 30.");
        Check.due("0", 0, new HiringHall().workers());
        Check.due("30", 30, Halls.full().workers());
        HiringHall full = Halls.full();
        Check.due("no more", Check.STATE, () -> full.signOn(0, 0));
        Check.due("30 still", 30, full.workers());
        Check.due("nobody", Check.NO_ELEMENT, () -> full.signOff(30));
        Check.due("30 still", 30, full.workers());
        HiringHall empty = new HiringHall();
        Check.due("no fewer", Check.NO_ELEMENT, () -> empty.signOff(0));
        Check.due("0 still", 0, empty.workers());
    }

    private static void boardOf() {
        DOCUMENT.section("Promise 18: boardOf");
        DOCUMENT.says("Returns the board of a worker.", "Returns 0 to 3.");
        HiringHall hall = Halls.full();
        for (int worker = 0; worker < 30; worker++) {
            Check.due("signed on there", worker % 4, hall.boardOf(worker));
        }
        for (int board = 0; board < 4; board++) {
            hall.move(5, board);
            Check.due("moved there", board, hall.boardOf(5));
        }
        Check.due("a board that there is not", Check.ARGUMENT, () -> hall.move(5, 4));
        Check.due("3 still", 3, hall.boardOf(5));
        Check.due("at work", 0, Halls.atWork(1).boardOf(0));
        Check.asked("asking", 2, Halls::busy, h -> h.boardOf(5));
        DOCUMENT.says(WORKER, NOBODY);
        Ranges.worker("boardOf", HiringHall::boardOf);
    }

    private static void rankOf() {
        DOCUMENT.section("Promise 19: rankOf");
        DOCUMENT.says("Returns how many workers stand above a worker on the board.");
        for (int board = 0; board < 4; board++) {
            HiringHall crowded = Halls.crowded(board);
            for (int worker = 0; worker < 30; worker++) {
                Check.due("so many above", worker, crowded.rankOf(worker));
            }
        }
        HiringHall hall = Halls.onBoards(3, 1, 3, 0, 3, 1);
        Check.due("those of other boards do not stand above", "0 0 1 0 2 1", Halls.ranks(hall, 6));
        hall.setAway(0, true);
        Check.due("those away do", 2, hall.rankOf(4));
        hall.signOff(2);
        Check.due("those signed off do not", 1, hall.rankOf(4));
        Check.due("those at work do", 1, Halls.atWork(2).rankOf(1));
        Check.asked("asking", 2, Halls::busy, h -> h.rankOf(4));
        DOCUMENT.says("Returns 0 for the top.");
        for (int board = 0; board < 4; board++) {
            Check.due("the only one", 0, Halls.onBoards(board).rankOf(0));
            Check.due("the top of a full hall", 0, Halls.full().rankOf(board));
        }
        HiringHall moved = Halls.of(1, 1);
        moved.move(0, 0);
        Check.due("the new top", 0, moved.rankOf(1));
        DOCUMENT.says(WORKER, NOBODY);
        Ranges.worker("rankOf", HiringHall::rankOf);
    }

    private static void hoursOf() {
        DOCUMENT.section("Promise 20: hoursOf");
        DOCUMENT.says("Returns the hours of a worker in this period, without those of the shift that is on unless the"
                + " worker left it.");
        HiringHall hall = Halls.worked(2, 12);
        Check.due("of two shifts", "24 0", Halls.hours(hall, 2));
        Halls.ordered(hall, 0, 1).dispatch();
        Check.due("without those of the shift that is on", "24 0", Halls.hours(hall, 2));
        hall.leave(1, 11);
        Check.due("unless one left it", "24 11", Halls.hours(hall, 2));
        hall.endShift();
        Check.due("with them when it ended", "36 11", Halls.hours(hall, 2));
        hall.endPeriod();
        Check.due("in this period", "0 0", Halls.hours(hall, 2));
        HiringHall left = Halls.atWork(1);
        left.leave(0, 0);
        Check.due("left at once", 0, left.hoursOf(0));
        left.endShift();
        Check.due("no more for having left", 0, left.hoursOf(0));
        DOCUMENT.says("Returns the hours.");
        Check.due("none", 0, Halls.of(1).hoursOf(0));
        Check.due("one", 1, Halls.worked(1, 1).hoursOf(0));
        Check.due("12", 12, Halls.worked(1, 12).hoursOf(0));
        Check.due("more than are ever guaranteed", 600, Halls.worked(50, 12).hoursOf(0));
        Check.asked("asking", 2, Halls::busy, h -> h.hoursOf(0));
        DOCUMENT.says(WORKER, NOBODY);
        Ranges.worker("hoursOf", HiringHall::hoursOf);
    }

    private static void refusalsOf() {
        DOCUMENT.section("Promise 21: refusalsOf");
        DOCUMENT.says("Returns how many times a worker refused in this period.", "Returns how many times.");
        for (int times = 0; times < 5; times++) {
            Check.due("so many times", times, Halls.refused(times).refusalsOf(0));
        }
        HiringHall hall = Halls.refused(2);
        hall.dispatch();
        Check.due("in dispatching, too", 3, hall.refusalsOf(0));
        Check.due("not the other", 0, hall.refusalsOf(1));
        hall.setRefusing(0, false);
        hall.replace(0);
        Check.due("taking a place takes nothing back", 3, hall.refusalsOf(0));
        hall.endShift();
        Check.due("in all shifts of the period", 3, hall.refusalsOf(0));
        hall.endPeriod();
        Check.due("but not in the next", 0, hall.refusalsOf(0));
        HiringHall told = Halls.refusing(Halls.ordered(Halls.of(2), 0), 0);
        told.dispatch();
        told.replace(0);
        Check.due("who is not asked refuses nothing", 0, told.refusalsOf(0));
        Check.asked("asking", 2, () -> Halls.refused(2), h -> h.refusalsOf(0));
        DOCUMENT.says(WORKER, NOBODY);
        Ranges.worker("refusalsOf", HiringHall::refusalsOf);
    }

    private static void placeOf() {
        DOCUMENT.section("Promise 22: placeOf");
        DOCUMENT.says("Returns the place that a worker fills.");
        HiringHall hall = Halls.fullAtWork();
        for (int worker = 0; worker < 16; worker++) {
            Check.due("the place of " + worker, worker, hall.placeOf(worker));
        }
        HiringHall turned = Halls.ordered(Halls.of(3, 1), 0, 1);
        turned.dispatch();
        Check.due("each the own", "1 0", turned.placeOf(0) + " " + turned.placeOf(1));
        turned.move(0, 3);
        turned.setAway(0, true);
        Check.due("moved and away", 1, turned.placeOf(0));
        DOCUMENT.says("Returns the place; NONE if the worker is not at work.");
        Check.due("without a place", HiringHall.NONE, hall.placeOf(16));
        Check.due("without places", HiringHall.NONE, Halls.of(1).placeOf(0));
        hall.leave(0, 0);
        Check.due("left the place 0", HiringHall.NONE, hall.placeOf(0));
        hall.endShift();
        for (int worker = 0; worker < 30; worker++) {
            Check.due("after the shift", HiringHall.NONE, hall.placeOf(worker));
        }
        Check.asked("asking", 1, Halls::busy, h -> h.placeOf(1));
        DOCUMENT.says(WORKER, NOBODY);
        Ranges.worker("placeOf", HiringHall::placeOf);
    }

    private static void owedTo() {
        DOCUMENT.section("Promise 23: owedTo");
        DOCUMENT.says("Returns what would be owed to a worker if the period ended now, by the hours as hoursOf() tells"
                + " them.");
        HiringHall hall = Halls.atWork(2);
        hall.setRule(0, false, 9);
        Check.due("the shift that is on does not count", "9 9", hall.owedTo(0) + " " + hall.owedTo(1));
        hall.leave(0, 8);
        Check.due("unless one left it", "1 9", hall.owedTo(0) + " " + hall.owedTo(1));
        Check.due("though a period cannot end now", Check.STATE, hall::endPeriod);
        hall.endShift();
        Check.due("then it counts", "1 1", hall.owedTo(0) + " " + hall.owedTo(1));
        Check.due("both are owed that", 2, hall.endPeriod());
        Check.due("all anew", "9 9", hall.owedTo(0) + " " + hall.owedTo(1));
        hall.setAway(1, true);
        Check.due("nothing to one away", "9 0", hall.owedTo(0) + " " + hall.owedTo(1));
        hall.setAway(1, false);
        Check.due("here again", 9, hall.owedTo(1));

        DOCUMENT.says("Returns the hours.");
        int[] guaranteed = {0, 1, 11, 12, 13, 399, 400};
        int[] rest = {0, 0, 0, 0, 1, 387, 388};
        for (int i = 0; i < guaranteed.length; i++) {
            HiringHall worked = Halls.worked(1, 12);
            worked.setRule(0, true, guaranteed[i]);
            Check.due("the rest of " + guaranteed[i], rest[i], worked.owedTo(0));
            Check.due("all of " + guaranteed[i], guaranteed[i], worked.owedTo(1));
        }
        int[] owed = {5, 5, 5, 0, 0};
        for (int times = 0; times < 5; times++) {
            HiringHall refused = Halls.refused(times);
            refused.setRule(0, true, 5);
            Check.due("after " + times + " refusals", owed[times], refused.owedTo(0));
        }
        HiringHall much = Halls.worked(34, 12);
        much.setRule(0, false, 400);
        Check.due("408 hours of 400", 0, much.owedTo(0));
        HiringHall less = Halls.worked(33, 12);
        less.setRule(0, false, 400);
        Check.due("396 hours of 400", 4, less.owedTo(0));
        for (int board = 0; board < 4; board++) {
            HiringHall boards = Halls.onBoards(0, 1, 2, 3);
            boards.setRule(board, false, 7);
            boards.move(3 - board, board);
            Check.due("by the board", 7, boards.owedTo(3 - board));
        }
        Check.asked("asking", 28, Halls::busy, h -> h.owedTo(0));
        DOCUMENT.says(WORKER, NOBODY);
        Ranges.worker("owedTo", HiringHall::owedTo);
    }

    private static void places() {
        DOCUMENT.section("Promise 24: places");
        DOCUMENT.says("Returns how many places there are.");
        HiringHall hall = Halls.of(1, 1);
        for (int place = 0; place < 16; place++) {
            Check.due("so many", place, hall.places());
            hall.order(0);
        }
        hall.dispatch();
        Check.due("open or filled", 16, hall.places());
        hall.leave(0, 3);
        Check.due("left ones, too", 16, hall.places());
        hall.endShift();
        Check.due("none after the shift", 0, hall.places());
        Check.asked("asking", 2, Halls::busy, HiringHall::places);
        DOCUMENT.says("Returns 0 to 16.");
        Check.due("0", 0, new HiringHall().places());
        HiringHall sixteen = Halls.sixteenPlaces();
        Check.due("16", 16, sixteen.places());
        Check.due("no more", Check.STATE, () -> sixteen.order(0));
        Check.due("16 still", 16, sixteen.places());
        Check.due("no such skill", Check.ARGUMENT, () -> sixteen.order(5));
        Check.due("16 still", 16, sixteen.places());
    }

    private static void workerAt() {
        DOCUMENT.section("Promise 25: workerAt");
        DOCUMENT.says("Returns the worker at a place.");
        Check.due("at all 16", "0 1 2 3 4 5 6 7 8 9 10 11 12 13 14 15", Halls.filled(Halls.fullAtWork()));
        HiringHall hall = Halls.ordered(Halls.of(3, 1), 0, 1);
        hall.dispatch();
        Check.due("each the own", "1 0", Halls.filled(hall));
        hall.signOn(0, 1);
        hall.leave(1, 0);
        hall.replace(0);
        Check.due("the replacement", "2 0", Halls.filled(hall));
        HiringHall late = new HiringHall();
        for (int number = 0; number < 40; number++) {
            late.signOn(0, 1);
            late.signOff(number);
        }
        late.signOn(0, 1);
        Halls.ordered(late, 0).dispatch();
        Check.due("by the number of the worker", 40, late.workerAt(0));
        DOCUMENT.says("Returns the worker; NONE if it is open.");
        Check.due("open at first", HiringHall.NONE, Halls.ordered(Halls.of(1), 0).workerAt(0));
        Check.due("the last of 16", HiringHall.NONE, Halls.sixteenPlaces().workerAt(15));
        Check.due("left", HiringHall.NONE, Halls.busy().workerAt(0));
        Check.due("left by the worker 0", HiringHall.NONE, Halls.allLeftAtOnce().workerAt(0));
        Check.due("left by one signed off", HiringHall.NONE, Halls.leftAndSignedOff().workerAt(0));
        Check.asked("asking", 1, Halls::busy, h -> h.workerAt(1));
        DOCUMENT.says("`place`: the place", "Throws `NoSuchElementException` if there is no such place");
        Ranges.place("workerAt", HiringHall::workerAt);
    }

    private static void nextUp() {
        DOCUMENT.section("Promise 26: nextUp");
        DOCUMENT.says("Returns the first worker of a board, from the top, who is ready.");
        for (int board = 0; board < 4; board++) {
            Check.due("the top of 30", 0, Halls.crowded(board).nextUp(board));
            Check.due("the top of this board", board, Halls.full().nextUp(board));
        }
        HiringHall hall = Halls.ordered(Halls.of(1, 1, 0, 0), 0);
        hall.setAway(0, true);
        hall.dispatch();
        Check.due("not away, not at work, whatever the skills", 2, hall.nextUp(0));
        hall.move(2, 0);
        Check.due("from the top", 3, hall.nextUp(0));
        hall.leave(1, 0);
        hall.setAway(3, true);
        Check.due("nor one who has been at work", 2, hall.nextUp(0));
        Halls.refusing(hall, 2);
        Check.due("one who refuses is ready", 2, hall.nextUp(0));
        hall.setAway(0, false);
        Check.due("one who is here again, too", 0, hall.nextUp(0));
        HiringHall last = Halls.crowded(1);
        for (int worker = 0; worker < 29; worker++) {
            last.setAway(worker, true);
        }
        Check.due("the last of 30", 29, last.nextUp(1));
        DOCUMENT.says("Returns the worker; NONE if there is none.");
        for (int board = 0; board < 4; board++) {
            Check.due("an empty hall", HiringHall.NONE, new HiringHall().nextUp(board));
            Check.due("an empty board", HiringHall.NONE, Halls.crowded(board).nextUp((board + 1) % 4));
        }
        last.setAway(29, true);
        Check.due("all away", HiringHall.NONE, last.nextUp(1));
        Check.due("all at work", HiringHall.NONE, Halls.atWork(3).nextUp(0));
        HiringHall been = Halls.atWork(1);
        been.leave(0, 0);
        Check.due("all have been at work", HiringHall.NONE, been.nextUp(0));
        been.endShift();
        Check.due("ready in the next shift", 0, been.nextUp(0));
        Check.asked("asking", 2, Halls::busy, h -> h.nextUp(0));
        DOCUMENT.says("`board`: 0 to 3", "Throws `IllegalArgumentException` if board is out of range");
        Ranges.board("nextUp", HiringHall::nextUp);
    }

    private static void fillable() {
        DOCUMENT.section("Promise 27: fillable");
        DOCUMENT.says("Returns the greatest number of open places that can be filled with ready workers who do not"
                + " refuse, each by another one who has its skill.");
        Check.due("each by another one", 1, Halls.ordered(Halls.of(31), 0, 1, 2, 3, 4).fillable());
        Check.due("each once", 1, Halls.ordered(Halls.of(31, 31, 31), 0).fillable());
        Check.due("who has its skill", 0, Halls.ordered(Halls.of(30, 30), 0, 0).fillable());
        Check.due("the greatest number", 3, Halls.ordered(Halls.of(1, 3, 6), 2, 1, 0).fillable());
        Check.due("not by the turn", 2, Halls.ordered(Halls.of(3, 1), 0, 1).fillable());
        Check.due("by workers of all boards", 4, Halls.ordered(Halls.onBoards(0, 1, 2, 3), 0, 1, 2, 3).fillable());
        HiringHall hall = Halls.ordered(Halls.of(1, 1, 1, 1), 0, 0, 0, 0, 0);
        hall.setAway(0, true);
        Check.due("ready workers", 3, hall.fillable());
        Halls.refusing(hall, 1);
        Check.due("who do not refuse", 2, hall.fillable());
        hall.replace(0);
        Check.due("open places", 1, hall.fillable());
        hall.leave(2, 0);
        Check.due("not by one who has been at work", 1, hall.fillable());
        hall.setRefusing(1, false);
        Check.due("who refuses no more", 2, hall.fillable());
        for (int places = 0; places < 27; places++) {
            for (int skills = 0; skills < 512; skills++) {
                threeByThree(places, skills);
            }
        }
        DOCUMENT.says("Returns how many.");
        Check.due("no workers, no places", 0, new HiringHall().fillable());
        Check.due("no workers", 0, Halls.ordered(new HiringHall(), 0, 1, 2, 3, 4).fillable());
        Check.due("no places", 0, Halls.full().fillable());
        Check.due("no open place", 0, Halls.fullAtWork().fillable());
        Check.due("two for 16", 2, Halls.sixteenPlaces().fillable());
        Check.due("16 of 30", 16, Halls.ordered(Halls.crowded(2), 0, 1, 2, 3, 4, 0, 1, 2, 3, 4, 0, 1, 2, 3, 4, 0)
                .fillable());
        Supplier<HiringHall> unskilled = () -> Halls.ordered(Halls.of(0, 0, 16), 0, 0, 1, 1, 2, 2, 3, 3, 4, 4);
        Check.due("none by those without skills, though places are many", 1, unskilled.get().fillable());
        Check.asked("asking with some without skills", 1, unskilled, HiringHall::fillable);
        Check.asked("asking", 1, Halls::busy, HiringHall::fillable);
        Check.asked("asking with 16 places", 2, Halls::sixteenPlaces, HiringHall::fillable);
    }

    /** All three workers with the skills 0 to 2 for three places, against the model. */
    private static void threeByThree(int places, int skills) {
        HallModel model = new HallModel();
        for (int worker = 0; worker < 3; worker++) {
            model.signOn(0, skills >> 3 * worker & 7);
        }
        int[] needed = {places % 3, places / 3 % 3, places / 9};
        for (int skill : needed) {
            model.order(skill);
        }
        HiringHall hall = Halls.ordered(Halls.of(skills & 7, skills >> 3 & 7, skills >> 6), needed);
        Check.due("skills " + skills + " places " + places, model.fillable(), hall.fillable());
    }
}
