import java.util.function.Function;
import java.util.function.Supplier;

/** The sentences of the terms, in the order of the document: of workers, boards, orders and gangs. */
public final class TermsTest {
    private static final Document DOCUMENT = new Document("What it is|Terms");

    private TermsTest() {
    }

    public static void main(String[] args) {
        DOCUMENT.section("What it is");
        whatItIs();
        atMost512Calls();
        DOCUMENT.section("Terms");
        constants();
        boardsAndNumbers();
        orderOfABoard();
        skills();
        hereOrAway();
        upToSixteenPlaces();
        openOrFilled();
        atWork();
        placesOfTheShift();
        turnOfAll();
        ready();
        goneThroughInTurn();
        canBeTaken();
        taken();
        refusesInDispatch();
        passedOver();
        takenGetPlaces();
        takenGoToTheBottom();
        refusalCostsThePlace();
        refusingIsToldAhead();
        hoursOfAShift();
        hourOfTheShift();
        comesInAtTheHour();
        leavesTheWork();
        replacement();
        replacementGoesToTheBottom();
        shiftEnds();
        workOfOneSignedOff();
        periodOfShifts();
        guaranteedAtFirst();
        owedTheRest();
        allIsNoneAgain();
        exceptionsByKind();
        firstOfTheThrowsClause();
        thrownCallsChangeNothing();
        DOCUMENT.end();
        Check.end("TermsTest");
    }

    // ---- what it is

    private static void whatItIs() {
        DOCUMENT.says("A hiring hall for longshore work: workers stand on boards in turn, orders ask for places that"
                + " need a skill, gangs are made up by going through the boards from the top so that nobody is passed"
                + " over who could fill a place, refusals cost the place on the board where the rule says so,"
                + " replacements come in the middle of a shift, and hours are guaranteed for a period.");
        HiringHall hall = Halls.ordered(Halls.of(1, 3, 1, 1), 0, 0, 1);
        hall.setRule(0, true, 10);
        hall.setRefusing(0, true);
        Check.due("a gang", 3, hall.dispatch());
        Check.due("from the top, nobody passed over", "2 3 1", Halls.filled(hall));
        Check.due("the refusal costs the place", "0 1 2 3", Halls.ranks(hall, 4));
        Check.due("leaves in the middle", 1, hall.leave(3, 3));
        hall.setRefusing(0, false);
        Check.due("the replacement", 0, hall.replace(1));
        Check.due("the hours of all", 24, hall.endShift());
        Check.due("the guarantee", 2 + 2 + 7 + 5, hall.endPeriod());
    }

    private static void atMost512Calls() {
        DOCUMENT.says("An object is used for at most 512 calls after it has been made; what later calls answer is"
                + " free.");
        HiringHall hall = new HiringHall();
        for (int number = 0; number < 255; number++) {
            Check.due("signed on as", number, hall.signOn(number % 4, number % 32));
            Check.due("signed off", 0, hall.signOff(number));
        }
        Check.due("the 511th call", 255, hall.signOn(3, 31));
        Check.due("the 512th call", 3, hall.boardOf(255));

        HiringHall diligent = Halls.of(1);
        diligent.setHours(12);
        for (int shift = 0; shift < 169; shift++) {
            diligent.order(0);
            diligent.dispatch();
            diligent.endShift();
        }
        Check.due("call 510: hours of 169 shifts", 169 * 12, diligent.hoursOf(0));
        Check.due("call 511: nothing is owed", 0, diligent.endPeriod());
        Check.due("call 512: hours are 0", 0, diligent.hoursOf(0));

        HiringHall unwilling = Halls.refusing(Halls.ordered(Halls.of(1), 0), 0);
        for (int i = 0; i < 254; i++) {
            unwilling.replace(0);
            unwilling.dispatch();
        }
        Check.due("call 512: 508 refusals", 508, unwilling.refusalsOf(0));
    }

    private static void constants() {
        DOCUMENT.says("The constants: `NONE = -1`: There is none.");
        Check.due("NONE", -1, HiringHall.NONE);
        HiringHall hall = Halls.ordered(Halls.of(0), 0);
        Check.due("no place", -1, hall.placeOf(0));
        Check.due("no worker at a place", -1, hall.workerAt(0));
        Check.due("no replacement", -1, hall.replace(0));
        Check.due("nobody up", -1, hall.nextUp(1));
    }

    // ---- workers and boards

    private static void boardsAndNumbers() {
        DOCUMENT.says("There are 4 boards, 0 to 3, and at most 30 workers, numbered from 0 in the order in which they"
                + " are signed on; numbers are never given again.");
        Ranges.board("equalise", HiringHall::equalise);
        for (int board = 0; board < 4; board++) {
            int b = board;
            HiringHall one = new HiringHall();
            for (int number = 0; number < 30; number++) {
                Check.due("worker " + number + " of board " + b, number, one.signOn(b, number));
            }
            Check.refused("the 31st worker of board " + b, Check.STATE, () -> Halls.crowded(b), h -> h.signOn(b, 0));
            Check.refused("the 31st worker, on another board", Check.STATE, () -> Halls.crowded(b),
                    h -> h.signOn((b + 1) % 4, 0));
        }
        HiringHall hall = Halls.full();
        hall.signOff(29);
        Check.due("the last number is not given again", 30, hall.signOn(0, 0));
        Check.due("30 workers again", Check.STATE, () -> hall.signOn(0, 0));
        for (int number = 0; number <= 30; number++) {
            int n = number;
            Check.due("signed off: " + n, n == 29 ? Check.NO_ELEMENT : "0", () -> hall.signOff(n));
        }
        Check.due("a refused call takes no number, and nor does an empty hall begin anew", 31, hall.signOn(0, 0));
        Check.due("a wrong board takes no number", Check.ARGUMENT, () -> hall.signOn(4, 0));
        Check.due("the next", 32, hall.signOn(0, 0));
        hall.endShift();
        hall.endPeriod();
        Check.due("nor does a new period begin anew", 33, hall.signOn(0, 0));
    }

    private static void orderOfABoard() {
        DOCUMENT.says("Each worker stands on one board; the workers of a board have an order, from the top to the"
                + " bottom.");
        HiringHall hall = Halls.full();
        for (int worker = 0; worker < 30; worker++) {
            Check.due("the board of " + worker, worker % 4, hall.boardOf(worker));
            Check.due("the rank of " + worker, worker / 4, hall.rankOf(worker));
        }
        hall.move(0, 3);
        Check.due("the new board", 3, hall.boardOf(0));
        Check.due("at the bottom of it", 7, hall.rankOf(0));
        Check.due("and not on the old one", 4, hall.nextUp(0));
        Check.due("where those below move up", "0 6", hall.rankOf(4) + " " + hall.rankOf(28));
        for (int board = 0; board < 4; board++) {
            HiringHall crowded = Halls.crowded(board);
            Check.due("the top of 30", "0 0", crowded.rankOf(0) + " " + crowded.nextUp(board));
            Check.due("the bottom of 30", 29, crowded.rankOf(29));
            crowded.move(0, board);
            Check.due("the top to the bottom of 30", "29 0 28",
                    crowded.rankOf(0) + " " + crowded.rankOf(1) + " " + crowded.rankOf(29));
        }
    }

    private static void skills() {
        DOCUMENT.says("A worker has skills, a set of the skills 0 to 4, told as a number: the bit k stands for the"
                + " skill k.");
        for (int set = 0; set < 32; set++) {
            for (int skill = 0; skill < 5; skill++) {
                int has = set >> skill & 1;
                String what = "the skills " + set + " for a place of " + skill;
                Check.due(what + ": fillable", has, Halls.ordered(Halls.of(set), skill).fillable());
                Check.due(what + ": dispatch", has, Halls.ordered(Halls.of(set), skill).dispatch());
                Check.due(what + ": replace", has - 1, Halls.ordered(Halls.of(set), skill).replace(0));
                HiringHall learner = Halls.ordered(Halls.of(31 - set), skill);
                learner.setSkills(0, set);
                Check.due(what + ": when told anew", has, learner.dispatch());
            }
        }
    }

    private static void hereOrAway() {
        DOCUMENT.says("A worker is here or away, here at first.");
        for (int board = 0; board < 4; board++) {
            HiringHall hall = Halls.ordered(Halls.onBoards(board), 0);
            Check.due("here at first, up", 0, hall.nextUp(board));
            Check.due("here at first, so one can fill", 1, hall.fillable());
            Check.due("here at first", false, hall.setAway(0, true));
            Check.due("away, so nobody is up", HiringHall.NONE, hall.nextUp(board));
            Check.due("away, so nobody can fill", 0, hall.fillable());
            Check.due("away, so nobody is dispatched", 0, hall.dispatch());
            Check.due("away, so nobody replaces", HiringHall.NONE, hall.replace(0));
            Check.due("away", true, hall.setAway(0, false));
            Check.due("here, and dispatched", 1, hall.dispatch());
        }
        HiringHall hall = Halls.of(1);
        hall.setAway(0, true);
        hall.signOn(0, 1);
        Check.due("another is here at first though one is away", false, hall.setAway(1, false));
    }

    // ---- orders and gangs

    private static void upToSixteenPlaces() {
        DOCUMENT.says("There are up to 16 places, numbered from 0 in the order in which they are ordered; each needs"
                + " one skill.");
        HiringHall hall = new HiringHall();
        for (int place = 0; place < 16; place++) {
            Check.due("so many places", place, hall.places());
            Check.due("the place " + place, place, hall.order(place % 5));
        }
        Check.due("16 places", 16, hall.places());
        for (int skill = 0; skill < 5; skill++) {
            int s = skill;
            Check.refused("the 17th place", Check.STATE, Halls::sixteenPlaces, h -> h.order(s));
            Check.refused("the 17th place when all are filled", Check.STATE, Halls::fullAtWork, h -> h.order(s));
        }
        HiringHall left = Halls.fullAtWork();
        left.leave(0, 0);
        Check.due("a place that is open again makes no room", Check.STATE, () -> left.order(0));
        left.endShift();
        Check.due("the shift's end makes room", 0, left.order(0));
        for (int skill = 0; skill < 5; skill++) {
            HiringHall others = Halls.ordered(Halls.of(31 - (1 << skill)), skill);
            Check.due("all other skills do not do", 0, others.dispatch());
            Check.due("the one does", 1, Halls.ordered(Halls.of(1 << skill), skill).dispatch());
        }
    }

    private static void openOrFilled() {
        DOCUMENT.says("A place is open, or filled by a worker.");
        HiringHall hall = Halls.ordered(Halls.of(1, 1, 1), 0, 0);
        Check.due("open at first", "-1 -1", Halls.filled(hall));
        Check.due("open ones can be filled", 2, hall.fillable());
        hall.dispatch();
        Check.due("filled", "0 1", Halls.filled(hall));
        Check.due("nothing is open for the third", 0, hall.fillable());
        Check.due("nor can a filled one be replaced", Check.STATE, () -> hall.replace(1));
        hall.leave(0, 0);
        Check.due("one open, one filled", "-1 1", Halls.filled(hall));
        Check.due("the open one can be filled", 1, hall.fillable());
        Check.due("by another", 2, hall.replace(0));
        Check.due("both filled", "2 1", Halls.filled(hall));
        Check.due("16 filled places", "0 1 2 3 4 5 6 7 8 9 10 11 12 13 14 15", Halls.filled(Halls.fullAtWork()));
    }

    private static void atWork() {
        DOCUMENT.says("A worker who fills a place is at work.");
        HiringHall hall = Halls.ordered(Halls.of(1, 1, 1), 0, 0);
        hall.replace(1);
        hall.dispatch();
        for (int worker = 0; worker < 2; worker++) {
            int w = worker;
            Check.due("fills a place", 1 - w, hall.placeOf(w));
            Check.due("is at work and cannot be signed off", Check.STATE, () -> hall.signOff(w));
            Check.due("nor learn", Check.STATE, () -> hall.setSkills(w, 1));
        }
        Check.due("one without a place is not at work and cannot leave", Check.STATE, () -> hall.leave(2, 0));
        Check.due("but learn", 1, hall.setSkills(2, 3));
        Check.due("one at work can leave", 0, hall.leave(1, 0));
        Check.due("and is not at work then", Check.STATE, () -> hall.leave(1, 0));
        Check.due("and can be signed off", 0, hall.signOff(1));
        hall.endShift();
        Check.due("nobody is at work after the shift", Check.STATE, () -> hall.leave(0, 0));
        Check.due("so all can be signed off", 8, hall.signOff(0));
    }

    private static void placesOfTheShift() {
        DOCUMENT.says("The places are those of the shift that is on or to come; when the shift ends, there are none.");
        HiringHall hall = Halls.ordered(Halls.of(1, 1), 0);
        hall.endPeriod();
        Check.due("places of the shift to come", 1, hall.places());
        hall.dispatch();
        Check.due("and of the shift that is on", "0", Halls.filled(hall));
        Check.due("one more in the shift", 1, hall.order(0));
        Check.due("belongs to it, too", "0 -1", Halls.filled(hall));
        hall.endShift();
        Check.due("none when it has ended", 0, hall.places());
        Check.due("not the filled one", Check.NO_ELEMENT, () -> hall.workerAt(0));
        Check.due("nor the open one", Check.NO_ELEMENT, () -> hall.replace(1));
        Check.due("nobody to dispatch to", 0, hall.dispatch());
        Check.due("nothing to fill", 0, hall.fillable());
        Check.due("numbers from 0 again", 0, hall.order(4));
        Check.due("it is open", HiringHall.NONE, hall.workerAt(0));
        Check.due("and needs the new skill", 0, hall.dispatch());
        hall.endShift();
        Check.due("a shift without work ends its places, too", 0, hall.places());
    }

    // ---- the turn

    private static void turnOfAll() {
        DOCUMENT.says("The turn of all workers is: those of board 0 from the top to the bottom, then those of board 1,"
                + " and so on.");
        Supplier<HiringHall> eight = () -> Halls.ordered(Halls.onBoards(3, 2, 1, 0, 3, 2, 1, 0), 0, 1, 2, 3, 4, 0, 1,
                2);
        HiringHall hall = eight.get();
        int[] turn = {3, 7, 2, 6, 1, 5, 0, 4};
        for (int place = 0; place < 8; place++) {
            Check.due("the replacement for " + place, turn[place], hall.replace(place));
        }
        HiringHall gang = eight.get();
        Check.due("all", 8, gang.dispatch());
        Check.due("in turn", "3 7 2 6 1 5 0 4", Halls.filled(gang));
        HiringHall gaps = Halls.ordered(Halls.onBoards(3, 1), 0, 0);
        gaps.dispatch();
        Check.due("empty boards are passed", "1 0", Halls.filled(gaps));
        HiringHall moved = eight.get();
        moved.move(4, 0);
        moved.move(3, 0);
        moved.dispatch();
        Check.due("by the order of the boards as it is", "7 4 3 2 6 1 5 0", Halls.filled(moved));
    }

    private static void ready() {
        DOCUMENT.says("A worker is ready if the worker is here, is not at work, and has not been at work in this"
                + " shift.");
        readiness("one who is here, is not at work, and has not been", true, h -> h);
        readiness("one who is away", false, h -> told(h, true));
        readiness("one who was away and is here again", true, h -> told(told(h, true), false));
        readiness("one who is at work", false, TermsTest::toWork);
        readiness("one who has been at work", false, TermsTest::toWorkAndBack);
        readiness("one who has been at work and moved", false, h -> {
            toWorkAndBack(h).move(0, 0);
            return h;
        });
        readiness("one who has been at work, learnt, and was away", false, h -> {
            toWorkAndBack(h).setSkills(0, 1);
            return told(told(h, true), false);
        });
        readiness("one who has been at work in the shift before", true, h -> {
            toWorkAndBack(h).endShift();
            return h;
        });
        readiness("one who was at work to the end of the shift before", true, h -> {
            toWork(h).endShift();
            return h;
        });
        readiness("one who was away at the end of the shift in which one was at work", true, h -> {
            told(toWork(h), true).endShift();
            return told(h, false);
        });
        readiness("one who refused", true, h -> {
            Halls.refusing(Halls.ordered(h, 0), 0).dispatch();
            h.setRefusing(0, false);
            return h;
        });
    }

    private static HiringHall told(HiringHall hall, boolean isAway) {
        hall.setAway(0, isAway);
        return hall;
    }

    private static HiringHall toWork(HiringHall hall) {
        hall.replace(hall.order(0));
        return hall;
    }

    private static HiringHall toWorkAndBack(HiringHall hall) {
        toWork(hall).leave(0, 0);
        return hall;
    }

    /** Makes the one worker of a hall as told, and looks whether the worker is ready. */
    private static void readiness(String what, boolean isReady, Function<HiringHall, HiringHall> made) {
        Supplier<HiringHall> maker = () -> Halls.ordered(made.apply(Halls.of(1)), 0);
        HiringHall hall = maker.get();
        Check.due(what + ": up", isReady ? 0 : HiringHall.NONE, hall.nextUp(0));
        Check.due(what + ": fillable", isReady ? 1 : 0, hall.fillable());
        Check.due(what + ": replaces", isReady ? 0 : HiringHall.NONE, hall.replace(hall.places() - 1));
        Check.due(what + ": dispatched", isReady ? 1 : 0, maker.get().dispatch());
        HiringHall refuser = Halls.refusing(maker.get(), 0);
        int before = refuser.refusalsOf(0);
        refuser.dispatch();
        Check.due(what + ": refuses when asked", isReady ? 1 : 0, refuser.refusalsOf(0) - before);
    }

    // ---- dispatching

    private static void goneThroughInTurn() {
        DOCUMENT.says("The ready workers are gone through in turn, as it was when dispatching began.");
        HiringHall hall = Halls.refusing(Halls.ordered(Halls.of(1, 1, 1, 1), 0, 0), 0, 2);
        hall.setRule(0, true, 0);
        Check.due("two", 2, hall.dispatch());
        Check.due("nobody is passed over because one goes to the bottom", "1 3", Halls.filled(hall));
        Check.due("nobody is asked twice", "1 0 1 0", Halls.refusals(hall, 4));
        HiringHall all = Halls.refusing(Halls.ordered(Halls.onBoards(0, 0, 0, 1, 1), 0), 0, 1, 2, 3, 4);
        all.setRule(0, true, 0);
        all.setRule(1, true, 0);
        Check.due("nobody", 0, all.dispatch());
        Check.due("everybody is asked once", "1 1 1 1 1", Halls.refusals(all, 5));
        Check.due("and all stand as before", "0 1 2 0 1", Halls.ranks(all, 5));
        HiringHall most = Halls.crowded(2);
        most.setRule(2, true, 0);
        Halls.refusing(Halls.ordered(most, 0), 0, 1, 2, 3, 4, 5, 6, 7, 8, 9, 10, 11, 12, 13, 14, 15, 16, 17, 18, 19, 20,
                21, 22, 23, 24, 25, 26, 27, 28);
        Check.due("the last of 30", 1, most.dispatch());
        Check.due("who is the only one who does not refuse", "29", Halls.filled(most));
        Check.due("the first refused once", 1, most.refusalsOf(0));
        Check.due("the one before the last, too", 1, most.refusalsOf(28));
    }

    private static void canBeTaken() {
        DOCUMENT.says("Some of them are taken: a worker can be taken if the workers who were taken before in this"
                + " dispatching and this one can all be given different open places whose skills they have.");
        Check.due("no open place", 0, Halls.of(31).dispatch());
        Check.due("no skill", 0, Halls.ordered(Halls.of(0), 0, 1, 2, 3, 4).dispatch());
        Check.due("not the skill", 0, Halls.ordered(Halls.of(30), 0, 0).dispatch());
        Check.due("one place for two", 1, Halls.ordered(Halls.of(1, 1), 0).dispatch());
        Check.due("two places for two", 2, Halls.ordered(Halls.of(1, 1), 0, 0).dispatch());
        Check.due("different places", 2, Halls.ordered(Halls.of(3, 3, 3), 0, 1).dispatch());
        Check.due("another place for the one before", 2, Halls.ordered(Halls.of(3, 1), 0, 1).dispatch());
        HiringHall filled = afterFirstOf(Halls.ordered(Halls.of(3, 1), 0, 1));
        Check.due("places that are filled are not open", 0, filled.dispatch());
        Check.due("all five by turning around", 5, Halls.ordered(Halls.of(3, 6, 12, 24, 1), 0, 1, 2, 3, 4).dispatch());
        Check.due("five for four", 4, Halls.ordered(Halls.of(3, 6, 12, 9, 1), 0, 1, 2, 3).dispatch());
        HiringHall many = Halls.ordered(Halls.crowded(0), 0, 1, 2, 3, 4, 0, 1, 2, 3, 4, 0, 1, 2, 3, 4, 0);
        Check.due("16 of 30", 16, many.dispatch());
        for (int places = 0; places < 27; places++) {
            for (int skills = 0; skills < 512; skills++) {
                threeByThree(places, skills);
            }
        }
    }

    /** All gangs of three workers with the skills 0 to 2 for three places, against the model. */
    private static void threeByThree(int places, int skills) {
        HiringHall hall = Halls.ordered(Halls.of(skills & 7, skills >> 3 & 7, skills >> 6), places % 3, places / 3 % 3,
                places / 9);
        HallModel model = new HallModel();
        for (int worker = 0; worker < 3; worker++) {
            model.signOn(0, skills >> 3 * worker & 7);
        }
        model.order(places % 3);
        model.order(places / 3 % 3);
        model.order(places / 9);
        String gang = model.dispatch() + ": " + model.workerAt(0) + " " + model.workerAt(1) + " " + model.workerAt(2);
        Check.due("skills " + skills + " places " + places, gang, hall.dispatch() + ": " + Halls.filled(hall));
    }

    private static void taken() {
        DOCUMENT.says("One who can be taken and does not refuse is taken.");
        HiringHall hall = Halls.ordered(Halls.of(1, 2, 4, 8, 16), 4, 3, 2, 1, 0);
        Check.due("all five are taken", 5, hall.dispatch());
        Check.due("each to the own place", "4 3 2 1 0", Halls.filled(hall));
        HiringHall told = Halls.refusing(Halls.ordered(Halls.of(1), 0), 0);
        told.setRefusing(0, false);
        Check.due("one who refuses no more", 1, told.dispatch());
        HiringHall before = Halls.refused(3);
        before.setRefusing(0, false);
        Check.due("one who refused 3 times before", 1, before.dispatch());
        HiringHall tired = Halls.worked(3, 12);
        Check.due("one with many hours", 1, Halls.ordered(tired, 0).dispatch());
        Check.due("no later one is waited for", "0 1", filledByDispatch(Halls.ordered(Halls.of(31, 31, 1, 1), 0, 0)));
    }

    private static String filledByDispatch(HiringHall hall) {
        hall.dispatch();
        return Halls.filled(hall);
    }

    private static void refusesInDispatch() {
        DOCUMENT.says("One who can be taken and refuses is not taken; the refusal is counted.");
        HiringHall hall = Halls.refusing(Halls.ordered(Halls.of(1, 2, 1), 0), 0, 2);
        Check.due("not taken", 0, hall.dispatch());
        Check.due("the place is open", HiringHall.NONE, hall.workerAt(0));
        Check.due("both could be taken, since nobody was taken before", "1 0 1", Halls.refusals(hall, 3));
        Check.due("again", 0, hall.dispatch());
        Check.due("counted again", "2 0 2", Halls.refusals(hall, 3));
        Check.due("who refused has not been at work", 0, hall.nextUp(0));
        HiringHall between = Halls.refusing(Halls.ordered(Halls.of(1, 1, 1, 1), 0, 0), 1, 3);
        Check.due("two of four", 2, between.dispatch());
        Check.due("who refuses takes no place from those after", "0 2", Halls.filled(between));
        Check.due("the last could not be taken any more", "0 1 0 0", Halls.refusals(between, 4));
    }

    private static void passedOver() {
        DOCUMENT.says("One who cannot be taken is passed over, and nothing changes for this worker.");
        Supplier<HiringHall> maker = () -> {
            HiringHall hall = Halls.ordered(Halls.of(1, 1, 2, 0), 0);
            hall.setRule(0, true, 20);
            return Halls.refusing(hall, 1, 2, 3);
        };
        HiringHall hall = maker.get();
        Check.due("one is taken", 1, hall.dispatch());
        Check.due("three are passed over without a refusal", "0 0 0 0", Halls.refusals(hall, 4));
        Check.due("and keep their order", "3 0 1 2", Halls.ranks(hall, 4));
        for (int worker = 1; worker < 4; worker++) {
            Check.due("no place", HiringHall.NONE, hall.placeOf(worker));
            Check.due("no hours", 0, hall.hoursOf(worker));
            Check.due("all is owed", 20, hall.owedTo(worker));
            Check.due("is ready still, and told to refuse still", true, hall.setRefusing(worker, false));
        }
        Check.due("the first of them is up", 1, hall.nextUp(0));
        Check.due("nobody is taken once more", 0, hall.dispatch());
        Check.due("and replaces", 1, hall.replace(hall.order(0)));
        Check.asked("dispatching to no open place", 0, () -> {
            HiringHall h = Halls.busy();
            h.setSkills(4, 30);
            h.setSkills(2, 0);
            h.setAway(5, true);
            return h;
        }, HiringHall::dispatch);
    }

    private static void takenGetPlaces() {
        DOCUMENT.says("At last the taken ones get places: one after the other, in the order in which they were taken,"
                + " each the lowest open place for which those after can still be given places, too.");
        Check.due("the lowest", "0 -1", filledByDispatch(Halls.ordered(Halls.of(3), 1, 0)));
        Check.due("with the skill", "-1 0", filledByDispatch(Halls.ordered(Halls.of(1), 1, 0)));
        Check.due("that is open", "0 1 -1", filledByDispatch(afterFirstOf(Halls.ordered(Halls.of(1, 1), 0, 0, 0))));
        Check.due("in order", "0 1 2", filledByDispatch(Halls.ordered(Halls.of(1, 1, 1), 0, 0, 0)));
        Check.due("leaving the only place", "1 0", filledByDispatch(Halls.ordered(Halls.of(3, 1), 0, 1)));
        Check.due("leaving one of two", "0 1 -1", filledByDispatch(Halls.ordered(Halls.of(3, 1), 0, 0, 1)));
        Check.due("both leave the third's", "2 0 1", filledByDispatch(Halls.ordered(Halls.of(3, 5, 1), 0, 1, 2)));
        Check.due("no place for one who refuses", "0 2", filledByDispatch(Halls.refusing(
                Halls.ordered(Halls.of(3, 1, 2), 0, 1), 1)));
        Check.due("by the turn, not by number", "0 1", filledByDispatch(Halls.ordered(Halls.onBoards(1, 2), 0, 0)));
        Check.due("16 of them", "0 1 2 3 4 5 6 7 8 9 10 11 12 13 14 15", Halls.filled(Halls.fullAtWork()));
    }

    private static HiringHall afterFirstOf(HiringHall hall) {
        hall.replace(0);
        return hall;
    }

    private static void takenGoToTheBottom() {
        DOCUMENT.says("Each of them then goes to the bottom of the board, in the order in which they were taken.");
        HiringHall hall = Halls.ordered(Halls.of(3, 1, 4), 0, 1);
        hall.dispatch();
        Check.due("by taking, not by places", "1 2 0", Halls.ranks(hall, 3));
        HiringHall boards = Halls.ordered(Halls.onBoards(0, 0, 0, 1, 1, 3), 0, 0, 0, 0);
        boards.setSkills(2, 0);
        boards.setSkills(4, 0);
        boards.dispatch();
        Check.due("all but two", "0 1 3 5", Halls.filled(boards));
        Check.due("each of the own board", "1 2 0 1 0 0", Halls.ranks(boards, 6));
        HiringHall many = Halls.fullAtWork();
        Check.due("those taken stand below the rest", "14 29 0 13", many.rankOf(0) + " " + many.rankOf(15) + " "
                + many.rankOf(16) + " " + many.rankOf(29));
    }

    private static void refusalCostsThePlace() {
        DOCUMENT.says("Where the rule of a board is that a refusal costs the place, the workers who refused go to the"
                + " bottom of their board at the moment of refusing (so they stand above those who were taken).");
        HiringHall hall = Halls.refusing(Halls.ordered(Halls.of(1, 1, 1, 1, 2), 0, 0), 0, 2);
        hall.setRule(0, true, 0);
        Check.due("two are taken", 2, hall.dispatch());
        Check.due("first those who refused, then the taken", "1 3 2 4 0", Halls.ranks(hall, 5));
        HiringHall kept = Halls.refusing(Halls.ordered(Halls.of(1, 1, 1, 1, 2), 0, 0), 0, 2);
        Check.due("two of those, too", 2, kept.dispatch());
        Check.due("where the rule is another, they keep the place", "0 3 1 4 2", Halls.ranks(kept, 5));
        for (int board = 0; board < 4; board++) {
            HiringHall other = Halls.refusing(Halls.ordered(Halls.onBoards(0, 0, 1, 1, 2, 2, 3, 3), 0), 0, 2, 4, 6);
            for (int worker = 1; worker < 8; worker += 2) {
                other.setSkills(worker, 2);
            }
            other.setRule(board, true, 0);
            other.dispatch();
            String[] ranks = {"1 0 0 1 0 1 0 1", "0 1 1 0 0 1 0 1", "0 1 0 1 1 0 0 1", "0 1 0 1 0 1 1 0"};
            Check.due("the place is lost on board " + board + " alone", ranks[board], Halls.ranks(other, 8));
        }
        HiringHall last = Halls.refusing(Halls.ordered(Halls.of(2, 1), 0), 1);
        last.setRule(0, true, 0);
        last.dispatch();
        Check.due("the last one stays the last", "0 1", Halls.ranks(last, 2));
        HiringHall alone = Halls.refusing(Halls.ordered(Halls.of(1), 0), 0);
        alone.setRule(0, true, 0);
        alone.dispatch();
        Check.due("the only one stays", 0, alone.rankOf(0));
    }

    // ---- refusing

    private static void refusingIsToldAhead() {
        DOCUMENT.says("Whether a worker refuses is told ahead; it stays until it is told otherwise, or the shift"
                + " ends.");
        HiringHall hall = Halls.refusing(Halls.ordered(Halls.of(1, 1), 0, 0), 0);
        hall.dispatch();
        Check.due("after a dispatch", true, hall.setRefusing(0, true));
        hall.replace(1);
        Check.due("after a refused replacement", true, hall.setRefusing(0, true));
        hall.move(0, 3);
        hall.setAway(0, true);
        hall.setAway(0, false);
        hall.setSkills(0, 3);
        hall.setRule(3, true, 8);
        hall.equalise(3);
        Check.due("after all that", true, hall.setRefusing(0, true));
        Check.due("the other was never told to", false, hall.setRefusing(1, false));
        hall.endShift();
        Check.due("the shift ended", false, hall.setRefusing(0, false));
        Check.due("so that both are taken", 2, Halls.ordered(hall, 0, 1).dispatch());
        HiringHall told = Halls.refusing(Halls.of(1), 0);
        told.endPeriod();
        Check.due("the end of a period is not that of a shift", true, told.setRefusing(0, true));
        told.endShift();
        Check.due("a shift without work ends, too", false, told.setRefusing(0, true));
        Check.due("told otherwise", true, told.setRefusing(0, false));
        Check.due("it is otherwise", false, told.setRefusing(0, false));
        HiringHall away = Halls.refusing(Halls.of(1), 0);
        away.setAway(0, true);
        away.endShift();
        Check.due("for those away, too", false, away.setRefusing(0, false));
    }

    // ---- shifts

    private static void hoursOfAShift() {
        DOCUMENT.says("A shift has a number of hours, 1 to 12.");
        Ranges.within("setHours", 1, 12, HiringHall::new, HiringHall::setHours);
        for (int hours = 1; hours <= 12; hours++) {
            Check.due("a shift of " + hours, hours, Halls.worked(1, hours).hoursOf(0));
            int last = hours;
            HiringHall hall = Halls.ordered(Halls.of(1), 0);
            hall.setHours(hours);
            hall.dispatch();
            Check.due("no later than its end", Check.ARGUMENT, () -> hall.leave(0, last + 1));
            Check.due("at its end", 0, hall.leave(0, last));
            Check.due("all of it was worked", last, hall.hoursOf(0));
        }
    }

    private static void hourOfTheShift() {
        DOCUMENT.says("Its hour is 0 at first; it becomes that at which somebody leaves.");
        HiringHall hall = Halls.atWork(6);
        Check.due("0 at first", 0, hall.leave(0, 0));
        Check.due("0 still", 1, hall.leave(1, 0));
        Check.due("1", 2, hall.leave(2, 1));
        Check.due("0 is past", Check.STATE, () -> hall.leave(3, 0));
        Check.due("1 still, and now 8", 3, hall.leave(3, 8));
        Check.due("7 is past", Check.STATE, () -> hall.leave(4, 7));
        Check.due("8 still", 4, hall.leave(4, 8));
        Check.due("9 never comes", Check.ARGUMENT, () -> hall.leave(5, 9));
        HiringHall refused = Halls.atWork(3);
        refused.leave(0, 2);
        Check.due("one who has left", Check.STATE, () -> refused.leave(0, 5));
        Check.due("an hour past", Check.STATE, () -> refused.leave(1, 1));
        Check.due("an hour too late", Check.ARGUMENT, () -> refused.leave(1, 9));
        Check.due("nobody", Check.NO_ELEMENT, () -> refused.leave(3, 6));
        Check.due("a refused call does not move it", 1, refused.leave(1, 2));
        Check.due("nor does it stay behind one that is answered", 2, refused.leave(2, 3));
    }

    private static void comesInAtTheHour() {
        DOCUMENT.says("Whoever gets a place comes in at the hour of the shift.");
        for (int hour = 0; hour <= 8; hour++) {
            HiringHall hall = Halls.ordered(Halls.of(1, 1, 1), 0, 1);
            hall.setSkills(2, 2);
            hall.replace(0);
            hall.leave(0, hour);
            hall.replace(0);
            hall.dispatch();
            Check.due("the first, and two from hour " + hour, hour + 2 * (8 - hour), hall.endShift());
            Check.due("each", hour + " " + (8 - hour) + " " + (8 - hour), Halls.hours(hall, 3));
        }
        HiringHall later = Halls.ordered(Halls.of(1, 1), 0);
        later.dispatch();
        later.order(0);
        later.leave(0, 5);
        later.dispatch();
        Check.due("leaves at once", 0, later.leave(1, 5));
        Check.due("without hours", 0, later.hoursOf(1));
    }

    private static void leavesTheWork() {
        DOCUMENT.says("A worker at work can leave: the place is open then, and the worker has worked from the hour at"
                + " which they came in to that at which they leave.");
        for (int in = 0; in <= 8; in++) {
            for (int out = in; out <= 8; out++) {
                HiringHall hall = Halls.ordered(Halls.of(1, 1), 0);
                hall.dispatch();
                hall.leave(0, in);
                hall.replace(0);
                Check.due("leaves", 0, hall.leave(1, out));
                Check.due("open", HiringHall.NONE, hall.workerAt(0));
                Check.due("from " + in + " to " + out, in + " " + (out - in), Halls.hours(hall, 2));
                Check.due("all in all", out, hall.endShift());
            }
        }
        HiringHall away = Halls.atWork(2);
        away.setAway(1, true);
        Check.due("one away can leave", 1, away.leave(1, 4));
        Check.due("the other stays at work", "0 -1", Halls.filled(away));
        HiringHall without = Halls.of(1);
        Check.due("one not at work cannot", Check.STATE, () -> without.leave(0, 0));
        HiringHall most = Halls.fullAtWork();
        for (int worker = 0; worker < 16; worker++) {
            Check.due("the place of " + worker, worker, most.leave(worker, worker / 2));
        }
        Check.due("all are open", "-1 -1 -1 -1 -1 -1 -1 -1 -1 -1 -1 -1 -1 -1 -1 -1", Halls.filled(most));
        Check.due("and the others can come", 14, most.fillable());
    }

    private static void replacement() {
        DOCUMENT.says("A replacement for an open place is the first worker in turn who is ready, has the skill and does"
                + " not refuse; of those ahead in turn each one who is ready and has the skill refuses, which is"
                + " counted and may cost the place as in dispatching.");
        HiringHall hall = Halls.ordered(Halls.onBoards(0, 0, 0, 1, 1, 1, 1), 3, 0);
        hall.setRule(1, true, 0);
        hall.replace(1);
        hall.setSkills(1, 23);
        hall.setAway(2, true);
        hall.setSkills(6, 8);
        Halls.refusing(hall, 0, 1, 2, 3, 4, 6);
        Check.due("the first one who is ready, has it, and does not refuse", 5, hall.replace(0));
        Check.due("those ahead refused, but not who is at work, or away, or without the skill; nobody behind",
                "0 0 0 1 1 0 0", Halls.refusals(hall, 7));
        Check.due("it costs the place", "2 0 1 1 2 3 0", Halls.ranks(hall, 7));
        HiringHall kept = Halls.refusing(Halls.ordered(Halls.of(1, 1, 1), 0), 0);
        Check.due("the second", 1, kept.replace(0));
        Check.due("it does not cost the place where the rule is another", "0 2 1", Halls.ranks(kept, 3));
        Check.due("nor is it counted twice", "1 0 0", Halls.refusals(kept, 3));
        HiringHall all = Halls.refusing(Halls.ordered(Halls.onBoards(2, 2, 2), 0), 0, 1, 2);
        all.setRule(2, true, 0);
        Check.due("nobody", HiringHall.NONE, all.replace(0));
        Check.due("each is asked once, by the turn as it was", "1 1 1", Halls.refusals(all, 3));
        Check.due("and all stand as before", "0 1 2", Halls.ranks(all, 3));
        HiringHall been = Halls.atWork(1);
        been.leave(0, 0);
        Halls.refusing(been, 0);
        Check.due("not one who has been at work", HiringHall.NONE, been.replace(0));
        Check.due("who does not refuse either", 0, been.refusalsOf(0));
    }

    private static void replacementGoesToTheBottom() {
        DOCUMENT.says("The replacement goes to the bottom of the board.");
        HiringHall hall = Halls.ordered(Halls.onBoards(0, 0, 0, 2, 2), 0, 0, 0, 0, 0);
        Check.due("the top", 0, hall.replace(3));
        Check.due("goes to the bottom", "2 0 1 0 1", Halls.ranks(hall, 5));
        Check.due("the next", 1, hall.replace(0));
        Check.due("goes below", "1 2 0 0 1", Halls.ranks(hall, 5));
        Check.due("the third", 2, hall.replace(1));
        Check.due("too", "0 1 2 0 1", Halls.ranks(hall, 5));
        Check.due("the top of another board", 3, hall.replace(2));
        Check.due("goes to the bottom of that", "0 1 2 1 0", Halls.ranks(hall, 5));
        HiringHall crowded = Halls.ordered(Halls.crowded(1), 0);
        crowded.replace(0);
        Check.due("of 30", 29, crowded.rankOf(0));
    }

    private static void shiftEnds() {
        DOCUMENT.says("When the shift ends, everybody who is still at work has worked from the hour at which they came"
                + " in to the end of the shift; the hour is 0 again.");
        HiringHall hall = Halls.ordered(Halls.of(1, 1, 1, 1), 0, 0, 0);
        hall.setHours(12);
        hall.dispatch();
        hall.leave(0, 7);
        hall.replace(0);
        hall.setAway(1, true);
        hall.move(2, 3);
        Check.due("all hours", 7 + 12 + 12 + 5, hall.endShift());
        Check.due("from the hour at which they came in", "7 12 12 5", Halls.hours(hall, 4));
        Halls.ordered(hall, 0, 0).dispatch();
        Check.due("the hour is 0 again", 1, hall.leave(3, 0));
        Check.due("so the next shift is a whole one", 12, hall.endShift());
        Check.due("for the one who stayed", "19 12 12 5", Halls.hours(hall, 4));
        Check.due("there is nothing more to end", 0, hall.endShift());
        Check.due("and nothing is worked without places", "19 12 12 5", Halls.hours(hall, 4));
        HiringHall atTheEnd = Halls.ordered(Halls.of(1, 1), 0);
        atTheEnd.dispatch();
        atTheEnd.leave(0, 8);
        atTheEnd.replace(0);
        Check.due("who came in at the end has no hours", 8, atTheEnd.endShift());
        Check.due("no hours", "8 0", Halls.hours(atTheEnd, 2));
        Check.due("16 at work", 16 * 8, Halls.fullAtWork().endShift());
    }

    private static void workOfOneSignedOff() {
        DOCUMENT.says("What a worker did in a shift counts for the shift also if the worker, having left the work,"
                + " signs off.");
        HiringHall hall = Halls.ordered(Halls.of(1, 1), 0);
        hall.dispatch();
        hall.leave(0, 3);
        Check.due("signs off with the hours", 3, hall.signOff(0));
        hall.replace(0);
        Check.due("the hours count", 3 + 5, hall.endShift());
        Check.due("but not in the next shift", 0, hall.endShift());
        Check.refused("somebody has been at work", Check.STATE, Halls::leftAndSignedOff, h -> h.setHours(8));
        Check.refused("though without hours", Check.STATE, Halls::leftAndSignedOff, HiringHall::endPeriod);
        HiringHall ended = Halls.leftAndSignedOff();
        Check.due("no hours of one who left at once", 0, ended.endShift());
        Check.due("until the shift ends", 8, ended.setHours(8));
        Check.due("then a period ends, too", 9, ended.endPeriod());
        HiringHall gone = Halls.atWork(1);
        gone.leave(0, 6);
        gone.signOff(0);
        gone.signOn(0, 1);
        Check.due("the hour stays", 1, gone.dispatch());
        Check.due("at which that one left", Check.STATE, () -> gone.leave(1, 5));
        Check.due("so both worked", 8, gone.endShift());
        HiringHall idle = Halls.of(1);
        idle.signOff(0);
        Check.due("one who never worked is no work", 8, idle.setHours(8));
    }

    // ---- periods

    private static void periodOfShifts() {
        DOCUMENT.says("A period is a number of shifts.");
        Check.due("none", "0 0", Halls.hours(Halls.worked(0, 12), 2));
        Check.due("one", "12 0", Halls.hours(Halls.worked(1, 12), 2));
        Check.due("two", "24 0", Halls.hours(Halls.worked(2, 12), 2));
        Check.due("forty", "40 0", Halls.hours(Halls.worked(40, 1), 2));
        HiringHall hall = Halls.worked(2, 8);
        hall.setRule(0, false, 100);
        Check.due("the guarantee is that of all its shifts", 84 + 100, hall.endPeriod());
        Check.due("a period without shifts ends, too", 200, hall.endPeriod());
        HiringHall refuser = Halls.refused(2);
        refuser.endShift();
        Halls.refusing(Halls.ordered(refuser, 0), 0).replace(0);
        Check.due("refusals of two shifts", 3, refuser.refusalsOf(0));
    }

    private static void guaranteedAtFirst() {
        DOCUMENT.says("For each board a number of hours is guaranteed, 0 at first.");
        for (int board = 0; board < 4; board++) {
            HiringHall hall = Halls.onBoards(0, 1, 2, 3);
            Check.due("nothing is owed", 0, hall.owedTo(board));
            Check.due("to nobody", 0, hall.endPeriod());
            Check.due("0 at first on board " + board, 0, hall.setRule(board, false, board + 1));
            for (int worker = 0; worker < 4; worker++) {
                Check.due("board " + board + " alone", worker == board ? board + 1 : 0, hall.owedTo(worker));
            }
        }
    }

    private static void owedTheRest() {
        DOCUMENT.says("When a period ends, each worker who is here, whose hours in this period are fewer than the"
                + " guaranteed hours of the board, and who refused fewer than 3 times in it, is owed the rest.");
        int[] guaranteed = {0, 1, 7, 8, 9, 400};
        int[] rest = {0, 0, 0, 0, 1, 392};
        for (int i = 0; i < guaranteed.length; i++) {
            HiringHall hall = Halls.worked(1, 8);
            hall.setRule(0, false, guaranteed[i]);
            Check.due("the rest of " + guaranteed[i] + " after 8 hours", rest[i], hall.owedTo(0));
            Check.due("and all to the other", rest[i] + guaranteed[i], hall.endPeriod());
        }
        int[] owed = {10, 10, 10, 0, 0};
        for (int times = 0; times < 5; times++) {
            HiringHall hall = Halls.refused(times);
            hall.setRule(0, false, 10);
            Check.due("after so many refusals: " + times, owed[times], hall.owedTo(0));
            Check.due("and all to the other", owed[times] + 10, hall.endPeriod());
        }
        HiringHall away = Halls.of(1, 1);
        away.setRule(0, true, 400);
        away.setAway(1, true);
        Check.due("to those here alone", 400, away.endPeriod());
        away.setAway(1, false);
        Check.due("who was away may be here again", 800, away.endPeriod());
        HiringHall moved = Halls.worked(1, 8);
        moved.setRule(0, false, 100);
        moved.setRule(3, false, 10);
        moved.move(0, 3);
        Check.due("by the board on which they stand", 2 + 100, moved.endPeriod());
        HiringHall crowded = Halls.crowded(1);
        crowded.setRule(1, false, 400);
        Check.due("30 workers", 30 * 400, crowded.endPeriod());
    }

    private static void allIsNoneAgain() {
        DOCUMENT.says("Then hours and refusals are 0 again.");
        HiringHall hall = Halls.ordered(Halls.of(1, 1, 2, 2), 0, 0);
        hall.dispatch();
        hall.endShift();
        Halls.refusing(Halls.ordered(hall, 1), 2, 3);
        for (int i = 0; i < 3; i++) {
            hall.replace(0);
        }
        hall.setRefusing(3, false);
        hall.setAway(1, true);
        hall.setAway(3, true);
        Check.due("before", "8 8 0 0 / 0 0 3 3", Halls.hours(hall, 4) + " / " + Halls.refusals(hall, 4));
        hall.endPeriod();
        Check.due("after, for those away, too", "0 0 0 0 / 0 0 0 0",
                Halls.hours(hall, 4) + " / " + Halls.refusals(hall, 4));
        hall.setRule(0, false, 5);
        Check.due("all is owed again", "5 0 5 0",
                hall.owedTo(0) + " " + hall.owedTo(1) + " " + hall.owedTo(2) + " " + hall.owedTo(3));
        Check.due("the order of the board stays", "2 3 0 1", Halls.ranks(hall, 4));
        Check.due("and so do the places", 1, hall.places());
        Check.due("and the rule", 5, hall.setRule(0, false, 5));
        Check.due("and the hours of shifts", 8, hall.setHours(8));
    }

    // ---- exceptions

    private static void exceptionsByKind() {
        DOCUMENT.says("NoSuchElementException: there is no such worker, or no such place.");
        Ranges.worker("boardOf", HiringHall::boardOf);
        Ranges.place("workerAt", HiringHall::workerAt);
        DOCUMENT.says("IllegalArgumentException: another argument is out of its range.");
        Ranges.within("signOn, skills", 0, 31, HiringHall::new, (h, skills) -> h.signOn(0, skills));
        Ranges.within("order, skill", 0, 4, HiringHall::new, HiringHall::order);
        Ranges.within("setRule, guaranteed", 0, 400, Halls::busy, (h, hours) -> h.setRule(0, true, hours));
        DOCUMENT.says("IllegalStateException: as the method says.");
        Check.refused("signOn to 30", Check.STATE, Halls::full, h -> h.signOn(0, 0));
        Check.refused("signOff at work", Check.STATE, Halls::busy, h -> h.signOff(1));
        Check.refused("setSkills at work", Check.STATE, Halls::busy, h -> h.setSkills(1, 1));
        Check.refused("order of a 17th place", Check.STATE, Halls::sixteenPlaces, h -> h.order(0));
        Check.refused("setHours at work", Check.STATE, Halls::busy, h -> h.setHours(8));
        Check.refused("leave without work", Check.STATE, Halls::busy, h -> h.leave(0, 8));
        Check.refused("replace at a filled place", Check.STATE, Halls::busy, h -> h.replace(1));
        Check.refused("endPeriod at work", Check.STATE, Halls::busy, HiringHall::endPeriod);
    }

    private static void firstOfTheThrowsClause() {
        DOCUMENT.says("If several exceptions apply, the first one of the throws clause is thrown.");
        first("signOn, argument before state", Check.ARGUMENT, Halls::full, h -> h.signOn(4, 0));
        first("signOn, argument before state", Check.ARGUMENT, Halls::full, h -> h.signOn(-1, 0));
        first("signOn, argument before state", Check.ARGUMENT, Halls::full, h -> h.signOn(0, 32));
        first("signOn, argument before state", Check.ARGUMENT, Halls::full, h -> h.signOn(0, -1));
        first("setSkills, nobody before argument", Check.NO_ELEMENT, Halls::busy, h -> h.setSkills(6, 32));
        first("setSkills, nobody before argument", Check.NO_ELEMENT, Halls::busy, h -> h.setSkills(-1, -1));
        first("setSkills, argument before state", Check.ARGUMENT, Halls::busy, h -> h.setSkills(1, 32));
        first("setSkills, argument before state", Check.ARGUMENT, Halls::busy, h -> h.setSkills(1, -1));
        first("move, nobody before argument", Check.NO_ELEMENT, Halls::busy, h -> h.move(6, 4));
        first("move, nobody before argument", Check.NO_ELEMENT, Halls::busy, h -> h.move(-1, -1));
        first("setRule, both arguments", Check.ARGUMENT, Halls::busy, h -> h.setRule(4, true, 401));
        first("order, argument before state", Check.ARGUMENT, Halls::sixteenPlaces, h -> h.order(5));
        first("order, argument before state", Check.ARGUMENT, Halls::fullAtWork, h -> h.order(-1));
        first("setHours, argument before state", Check.ARGUMENT, Halls::busy, h -> h.setHours(0));
        first("setHours, argument before state", Check.ARGUMENT, Halls::leftAndSignedOff, h -> h.setHours(13));
        first("leave, nobody before argument", Check.NO_ELEMENT, Halls::busy, h -> h.leave(6, 9));
        first("leave, nobody before argument", Check.NO_ELEMENT, Halls::busy, h -> h.leave(-1, -1));
        first("leave, nobody before state", Check.NO_ELEMENT, Halls::busy, h -> h.leave(6, 1));
        first("leave, argument before not at work", Check.ARGUMENT, Halls::busy, h -> h.leave(0, 9));
        first("leave, argument before not at work", Check.ARGUMENT, Halls::busy, h -> h.leave(4, -1));
        first("leave, argument before an hour past", Check.ARGUMENT, Halls::busy, h -> h.leave(1, -1));
    }

    private static void first(String what, String want, Supplier<HiringHall> maker, Function<HiringHall, Object> call) {
        Check.refused(what, want, maker, call);
    }

    private static void thrownCallsChangeNothing() {
        DOCUMENT.says("A call that throws changes nothing.");
        nothingChanges("a new hall", HiringHall::new);
        nothingChanges("a busy hall", Halls::busy);
        nothingChanges("a full hall", Halls::full);
        nothingChanges("a full hall at work", Halls::fullAtWork);
        nothingChanges("16 places", Halls::sixteenPlaces);
        nothingChanges("a hall after work", Halls::leftAndSignedOff);
        nothingChanges("a hall between shifts", () -> Halls.worked(3, 12));
        nothingChanges("a hall with refusals", () -> Halls.refused(2));
    }

    /** Makes all calls that can throw, with right and wrong arguments; those that throw may leave no trace. */
    private static void nothingChanges(String what, Supplier<HiringHall> maker) {
        String before = Look.at(maker);
        int[] values = {-1, 0, 1, 3, 4, 8, 16, 32, 401};
        for (int a : values) {
            keeps(what + ": signOff " + a, before, maker, h -> h.signOff(a));
            keeps(what + ": equalise " + a, before, maker, h -> h.equalise(a));
            keeps(what + ": order " + a, before, maker, h -> h.order(a));
            keeps(what + ": setHours " + a, before, maker, h -> h.setHours(a));
            keeps(what + ": replace " + a, before, maker, h -> h.replace(a));
            keeps(what + ": setAway " + a, before, maker, h -> h.setAway(a, true));
            keeps(what + ": setRefusing " + a, before, maker, h -> h.setRefusing(a, true));
            for (int b : values) {
                keeps(what + ": signOn " + a + " " + b, before, maker, h -> h.signOn(a, b));
                keeps(what + ": setSkills " + a + " " + b, before, maker, h -> h.setSkills(a, b));
                keeps(what + ": move " + a + " " + b, before, maker, h -> h.move(a, b));
                keeps(what + ": setRule " + a + " " + b, before, maker, h -> h.setRule(a, true, b));
                keeps(what + ": leave " + a + " " + b, before, maker, h -> h.leave(a, b));
            }
        }
        keeps(what + ": endPeriod", before, maker, HiringHall::endPeriod);
    }

    private static void keeps(String what, String before, Supplier<HiringHall> maker,
            Function<HiringHall, Object> call) {
        if (Check.answerOf(() -> call.apply(maker.get())).startsWith("throws")) {
            Check.due(what, before, Look.at(() -> {
                HiringHall hall = maker.get();
                Check.answerOf(() -> call.apply(hall));
                return hall;
            }));
        }
    }
}
