import java.util.function.Supplier;

/** The sentences of the promises 10 to 16, orders and gangs, in the order of the document. */
public final class GangsTest {
    private static final String BEGUN = "Throws `IllegalStateException` if somebody is or has been at work in this"
            + " shift";
    private static final Document DOCUMENT = new Document("Promise 1[0-6]: .*");

    private GangsTest() {
    }

    public static void main(String[] args) {
        order();
        dispatch();
        setHours();
        leave();
        replace();
        endShift();
        endPeriod();
        DOCUMENT.end();
        Check.end("GangsTest");
    }

    private static void order() {
        DOCUMENT.section("Promise 10: order");
        DOCUMENT.says("Orders a place.");
        HiringHall hall = Halls.of(1, 2);
        hall.order(1);
        Check.due("one place", 1, hall.places());
        Check.due("it is open", "-1", Halls.filled(hall));
        Check.due("and needs the skill", 1, hall.replace(0));
        hall.order(0);
        Check.due("two places", 2, hall.places());
        Check.due("the first stays filled", "1 -1", Halls.filled(hall));
        Check.due("the second can be", 1, hall.dispatch());
        Check.due("by the other", "1 0", Halls.filled(hall));

        DOCUMENT.says("`skill`: 0 to 4", "Throws `IllegalArgumentException` if skill is out of range");
        Ranges.within("order", 0, 4, HiringHall::new, HiringHall::order);
        Ranges.within("order in the shift", 0, 4, Halls::busy, HiringHall::order);
        Check.refused("argument before state", Check.ARGUMENT, Halls::sixteenPlaces, h -> h.order(5));
        Check.refused("argument before state", Check.ARGUMENT, Halls::sixteenPlaces, h -> h.order(-1));

        DOCUMENT.says("Returns the number of the place.");
        HiringHall numbers = Halls.of(1, 1);
        for (int shift = 0; shift < 3; shift++) {
            for (int place = 0; place < 16; place++) {
                Check.due("the number", place, numbers.order(place == 15 ? 0 : 1 + place % 4));
            }
            Check.due("of the place", shift % 2, numbers.replace(15));
            numbers.endShift();
        }

        DOCUMENT.says("Throws `IllegalStateException` if there are 16 places");
        Supplier<HiringHall> fifteen = () -> Halls.ordered(Halls.of(31), 0, 1, 2, 3, 4, 0, 1, 2, 3, 4, 0, 1, 2, 3, 4);
        Check.due("there are 15", 15, fifteen.get().order(4));
        Check.refused("there are 16", Check.STATE, () -> Halls.ordered(fifteen.get(), 4), h -> h.order(4));
        Check.refused("there are 16, all filled", Check.STATE, Halls::fullAtWork, h -> h.order(0));
        HiringHall ended = Halls.fullAtWork();
        ended.endShift();
        Check.due("there are none", 0, ended.order(0));
    }

    private static void dispatch() {
        DOCUMENT.section("Promise 11: dispatch");
        DOCUMENT.says("Dispatches workers to the open places.");
        HiringHall hall = Halls.ordered(Halls.of(1, 1, 2, 1), 0, 1, 0);
        hall.replace(2);
        hall.dispatch();
        Check.due("to the open ones", "1 2 0", Halls.filled(hall));
        hall.leave(2, 4);
        hall.setSkills(3, 2);
        hall.dispatch();
        Check.due("to one that is open again", "1 3 0", Halls.filled(hall));
        hall.order(0);
        hall.dispatch();
        Check.due("nobody is left for the new one", "1 3 0 -1", Halls.filled(hall));
        Check.due("all hours", 8 + 8 + 4 + 4, hall.endShift());

        DOCUMENT.says("Returns how many are taken.");
        Check.due("no workers, no places", 0, new HiringHall().dispatch());
        Check.due("no workers", 0, Halls.ordered(new HiringHall(), 0, 1, 2, 3, 4).dispatch());
        Check.due("no places", 0, Halls.full().dispatch());
        Check.due("no open place", 0, Halls.fullAtWork().dispatch());
        Check.due("one of 30", 1, Halls.ordered(Halls.crowded(3), 4).dispatch());
        Check.due("two of two", 2, Halls.sixteenPlaces().dispatch());
        HiringHall most = Halls.ordered(Halls.crowded(0), 4, 4, 4, 4, 4, 4, 4, 4, 4, 4, 4, 4, 4, 4, 4, 4);
        Check.due("16 of 30", 16, most.dispatch());
        most.endShift();
        Halls.ordered(most, 0, 0, 0, 0, 0, 0, 0, 0, 0, 0, 0, 0, 0, 0, 0, 0);
        Check.due("the other 14, and two", 16, most.dispatch());
        Check.due("the others first", "16 17 18 19 20 21 22 23 24 25 26 27 28 29 0 1", Halls.filled(most));
        HiringHall refusing = Halls.refusing(Halls.ordered(Halls.of(1, 1, 1), 0, 0, 0), 0, 2);
        Check.due("not those who refuse", 1, refusing.dispatch());
        HiringHall later = Halls.ordered(Halls.atWork(2), 0, 0);
        later.signOn(0, 1);
        Check.due("not those taken before", 1, later.dispatch());
    }

    private static void setHours() {
        DOCUMENT.section("Promise 12: setHours");
        DOCUMENT.says("Sets the hours that shifts have from now on, the one that is on or to come included.");
        HiringHall hall = Halls.ordered(Halls.of(1), 0);
        hall.setHours(11);
        hall.dispatch();
        Check.due("the one to come", 11, hall.endShift());
        for (int shift = 0; shift < 3; shift++) {
            Halls.ordered(hall, 0).dispatch();
            Check.due("those after it", 11, hall.endShift());
        }
        hall.endPeriod();
        Halls.ordered(hall, 0).dispatch();
        Check.due("those of the next period", 11, hall.endShift());
        HiringHall refused = Halls.refused(1);
        Check.due("a shift in which all refused can be changed", 8, refused.setHours(2));
        refused.setRefusing(0, false);
        refused.dispatch();
        Check.due("and has those hours", 2, refused.endShift());

        DOCUMENT.says("`hours`: 1 to 12", "Throws `IllegalArgumentException` if hours is out of range");
        Ranges.within("setHours", 1, 12, HiringHall::new, HiringHall::setHours);
        Ranges.within("setHours after a shift", 1, 12, () -> Halls.worked(1, 12), HiringHall::setHours);
        Check.refused("argument before state", Check.ARGUMENT, Halls::busy, h -> h.setHours(0));
        Check.refused("argument before state", Check.ARGUMENT, Halls::busy, h -> h.setHours(13));
        Check.refused("argument before state", Check.ARGUMENT, Halls::leftAndSignedOff, h -> h.setHours(-8));

        DOCUMENT.says("Returns the hours before.");
        HiringHall told = new HiringHall();
        Check.due("8 at first", 8, told.setHours(1));
        for (int hours = 1; hours < 12; hours++) {
            Check.due("the hours before", hours, told.setHours(hours + 1));
        }
        Check.due("not what was refused", Check.ARGUMENT, () -> told.setHours(13));
        Check.due("12", 12, told.setHours(12));
        told.endShift();
        told.endPeriod();
        Check.due("12 still", 12, told.setHours(8));

        DOCUMENT.says(BEGUN);
        Check.refused("one is at work", Check.STATE, () -> Halls.atWork(1), h -> h.setHours(9));
        Check.refused("as many hours as before", Check.STATE, () -> Halls.atWork(1), h -> h.setHours(8));
        Check.refused("one has been at work", Check.STATE, Halls::allLeftAtOnce, h -> h.setHours(9));
        Check.refused("one who is signed off has been", Check.STATE, Halls::leftAndSignedOff, h -> h.setHours(9));
        Check.refused("one is at work as a replacement", Check.STATE, GangsTest::replaced, h -> h.setHours(9));
        HiringHall ended = Halls.atWork(1);
        ended.endShift();
        Check.due("that was in the shift before", 8, ended.setHours(9));
        Check.due("places alone are no work", 8, Halls.sixteenPlaces().setHours(12));
        HiringHall nobody = Halls.ordered(Halls.of(2), 0);
        nobody.dispatch();
        nobody.replace(0);
        Check.due("nor is a dispatch without workers", 8, nobody.setHours(12));
    }

    private static HiringHall replaced() {
        HiringHall hall = Halls.ordered(Halls.of(1), 0);
        hall.replace(0);
        return hall;
    }

    private static void leave() {
        DOCUMENT.section("Promise 13: leave");
        DOCUMENT.says("Lets a worker leave the work.");
        HiringHall hall = Halls.atWork(3);
        hall.leave(1, 6);
        Check.due("not at work any more", HiringHall.NONE, hall.placeOf(1));
        Check.due("the others are", "0 -1 2", Halls.filled(hall));
        Check.due("the rank stays", "0 1 2", Halls.ranks(hall, 3));
        Check.due("with hours", "0 6 0", Halls.hours(hall, 3));
        Check.due("and cannot be taken again in this shift", 0, hall.dispatch());
        Check.due("works no more", 8 + 6 + 8, hall.endShift());

        DOCUMENT.says("`worker`: the worker", "Throws `NoSuchElementException` if there is no such worker");
        Ranges.worker("leave", (h, worker) -> h.leave(worker, 0));
        Check.refused("nobody before a wrong argument", Check.NO_ELEMENT, Halls::busy, h -> h.leave(6, 9));
        Check.refused("nobody before a wrong argument", Check.NO_ELEMENT, HiringHall::new, h -> h.leave(0, -1));
        Check.refused("nobody before a past hour", Check.NO_ELEMENT, Halls::busy, h -> h.leave(6, 1));

        DOCUMENT.says("`hour`: 0 to the hours of the shift: when",
                "Throws `IllegalArgumentException` if hour is below 0 or greater than the hours of the shift");
        for (int hours = 1; hours <= 12; hours++) {
            int length = hours;
            Supplier<HiringHall> shift = () -> {
                HiringHall h = Halls.ordered(Halls.of(1), 0);
                h.setHours(length);
                h.dispatch();
                return h;
            };
            Ranges.within("leave in a shift of " + hours, 0, hours, shift, (h, hour) -> h.leave(0, hour));
        }
        int[] bad = {-1, 9, 13, Integer.MIN_VALUE, Integer.MAX_VALUE};
        for (int hour : bad) {
            Check.refused("argument before not at work", Check.ARGUMENT, Halls::busy, h -> h.leave(0, hour));
            Check.refused("argument before not at work", Check.ARGUMENT, Halls::full, h -> h.leave(0, hour));
            Check.refused("argument before a past hour", Check.ARGUMENT, Halls::busy, h -> h.leave(1, hour));
        }

        DOCUMENT.says("Returns the place that is open then.");
        for (int worker = 0; worker < 16; worker++) {
            HiringHall sixteen = Halls.fullAtWork();
            int place = sixteen.leave(worker, 3);
            Check.due("the place", worker, place);
            Check.due("is open then", HiringHall.NONE, sixteen.workerAt(place));
        }
        HiringHall turned = Halls.ordered(Halls.of(3, 1), 0, 1);
        turned.dispatch();
        Check.due("the place of this worker", 1, turned.leave(0, 0));

        DOCUMENT.says("Throws `IllegalStateException` if the worker is not at work, or hour is less than the hour of"
                + " the shift");
        Check.refused("never at work", Check.STATE, Halls::busy, h -> h.leave(4, 2));
        Check.refused("never at work, at the hour 0", Check.STATE, () -> Halls.of(1), h -> h.leave(0, 0));
        Check.refused("left before", Check.STATE, Halls::busy, h -> h.leave(0, 2));
        Check.refused("left before, at the end", Check.STATE, Halls::busy, h -> h.leave(0, 8));
        Check.refused("left at the hour 0, with a place 0", Check.STATE, Halls::allLeftAtOnce, h -> h.leave(0, 0));
        Check.refused("at work in the shift before", Check.STATE, () -> Halls.worked(1, 8), h -> h.leave(0, 0));
        Check.refused("one hour less", Check.STATE, Halls::busy, h -> h.leave(1, 1));
        Check.refused("the hour 0", Check.STATE, Halls::busy, h -> h.leave(1, 0));
        Check.due("the very hour", 1, Halls.busy().leave(1, 2));
        Check.due("one hour more", 1, Halls.busy().leave(1, 3));
        Check.refused("both", Check.STATE, Halls::busy, h -> h.leave(4, 1));
        HiringHall late = Halls.atWork(3);
        late.leave(0, 8);
        Check.due("an hour before the end", Check.STATE, () -> late.leave(1, 7));
        Check.due("the end", 1, late.leave(1, 8));
    }

    private static void replace() {
        DOCUMENT.section("Promise 14: replace");
        DOCUMENT.says("Looks for a replacement for a place, whether or not somebody filled it before; the replacement"
                + " fills it then.");
        HiringHall hall = Halls.ordered(Halls.of(1, 2, 1, 3), 0, 1);
        Check.due("nobody filled it before", 0, hall.replace(0));
        Check.due("filled then", "0 -1", Halls.filled(hall));
        Check.due("by the replacement", 0, hall.placeOf(0));
        hall.leave(0, 2);
        Check.due("somebody filled it before", 2, hall.replace(0));
        Check.due("filled then", "2 -1", Halls.filled(hall));
        Check.due("the other place", 1, hall.replace(1));
        hall.leave(1, 4);
        Check.due("it, too", 3, hall.replace(1));
        Check.due("both", "2 3", Halls.filled(hall));
        Check.due("comes in at the hour of the shift", 2 + 6 + 2 + 4, hall.endShift());
        HiringHall sixteen = Halls.fullAtWork();
        sixteen.leave(15, 0);
        Check.due("the last place", 16, sixteen.replace(15));
        HiringHall alone = Halls.ordered(Halls.of(1, 1), 0, 0);
        alone.replace(1);
        Check.due("no other place", "-1 0", Halls.filled(alone));

        DOCUMENT.says("`place`: the place", "Throws `NoSuchElementException` if there is no such place");
        Ranges.place("replace", HiringHall::replace);

        DOCUMENT.says("Returns the worker; NONE if there is none (refusals are counted then, too).");
        Check.asked("no workers", HiringHall.NONE, () -> Halls.ordered(new HiringHall(), 0), h -> h.replace(0));
        Check.asked("nobody has the skill", HiringHall.NONE, () -> Halls.ordered(Halls.of(30, 0), 0),
                h -> h.replace(0));
        Check.asked("nobody is here", HiringHall.NONE, () -> {
            HiringHall h = Halls.ordered(Halls.of(1), 0);
            h.setAway(0, true);
            return h;
        }, h -> h.replace(0));
        Check.asked("all have been at work", HiringHall.NONE, Halls::allLeftAtOnce, h -> h.replace(0));
        HiringHall refusing = Halls.refusing(Halls.ordered(Halls.of(1, 1, 2), 0), 0, 1, 2);
        refusing.setRule(0, true, 0);
        Check.due("all refuse", HiringHall.NONE, refusing.replace(0));
        Check.due("counted then, too", "1 1 0", Halls.refusals(refusing, 3));
        Check.due("and it costs the place", "1 2 0", Halls.ranks(refusing, 3));
        Check.due("the place stays open", HiringHall.NONE, refusing.workerAt(0));
        HiringHall crowded = Halls.ordered(Halls.crowded(3), 0);
        for (int worker = 0; worker < 29; worker++) {
            crowded.setRefusing(worker, true);
        }
        Check.due("the last of 30", 29, crowded.replace(0));
        Check.due("all others refused", "1 1 0",
                crowded.refusalsOf(0) + " " + crowded.refusalsOf(28) + " " + crowded.refusalsOf(29));
        HiringHall numbers = Halls.of(1, 1);
        numbers.signOff(0);
        Check.due("the number of the worker", 1, Halls.ordered(numbers, 0).replace(0));

        DOCUMENT.says("Throws `IllegalStateException` if the place is filled");
        Check.refused("filled by a dispatch", Check.STATE, Halls::busy, h -> h.replace(1));
        Check.refused("filled by a replacement", Check.STATE, GangsTest::replaced, h -> h.replace(0));
        Check.refused("filled by the worker 0", Check.STATE, () -> Halls.atWork(2), h -> h.replace(0));
        Check.refused("the last of 16", Check.STATE, Halls::fullAtWork, h -> h.replace(15));
        Check.due("open again", 4, Halls.busy().replace(0));
    }

    private static void endShift() {
        DOCUMENT.section("Promise 15: endShift");
        DOCUMENT.says("Ends the shift.");
        HiringHall hall = Halls.ordered(Halls.of(1, 1, 1), 0, 0, 0, 4);
        hall.dispatch();
        hall.leave(0, 3);
        Halls.refusing(hall, 1);
        hall.endShift();
        Check.due("no places", 0, hall.places());
        Check.due("nobody at work", "-1 -1 -1", hall.placeOf(0) + " " + hall.placeOf(1) + " " + hall.placeOf(2));
        Check.due("all hours are counted", "3 8 8", Halls.hours(hall, 3));
        Check.due("all are ready", 3, Halls.ordered(hall, 0, 0, 0).fillable());
        Check.due("nobody refuses", false, hall.setRefusing(1, false));
        Check.due("the hours can be changed", 8, hall.setHours(9));
        Check.due("the ranks stay", "0 1 2", Halls.ranks(hall, 3));
        hall.dispatch();
        Check.due("the hour is 0", 0, hall.leave(0, 0));
        HiringHall keeps = Halls.refused(2);
        keeps.setRule(0, false, 30);
        keeps.setAway(1, true);
        keeps.endShift();
        Check.due("refusals stay", 2, keeps.refusalsOf(0));
        Check.due("who is away stays away", true, keeps.setAway(1, true));
        Check.due("the guarantee stays", 30, keeps.setRule(0, false, 30));
        Check.asked("a shift without places", 0, () -> Halls.worked(1, 8), HiringHall::endShift);

        DOCUMENT.says("Returns how many hours were worked in it by all, those of workers who left included.");
        Check.due("no workers", 0, new HiringHall().endShift());
        Check.due("no work", 0, Halls.sixteenPlaces().endShift());
        Check.due("one", 8, Halls.atWork(1).endShift());
        Check.due("all left at once", 0, Halls.allLeftAtOnce().endShift());
        Check.due("one left and signed off", 0, Halls.leftAndSignedOff().endShift());
        Check.due("one left, one stays", 2 + 8, Halls.busy().endShift());
        HiringHall most = Halls.crowded(0);
        most.setHours(12);
        for (int place = 0; place < 16; place++) {
            most.order(0);
        }
        most.dispatch();
        Check.due("16 places of 12 hours", 16 * 12, most.endShift());
        HiringHall chain = Halls.ordered(Halls.crowded(0), 0);
        for (int worker = 0; worker < 9; worker++) {
            chain.replace(0);
            chain.leave(worker, worker);
        }
        Check.due("nine workers at one place", 8, chain.endShift());
        Check.due("once", 0, chain.endShift());
        HiringHall gone = Halls.busy();
        gone.signOff(0);
        Check.due("those of one signed off", 2 + 8, gone.endShift());
        Check.due("once, too", 0, gone.endShift());
        HiringHall period = Halls.worked(2, 8);
        Halls.ordered(period, 0).dispatch();
        Check.due("not those of shifts before", 8, period.endShift());
    }

    private static void endPeriod() {
        DOCUMENT.section("Promise 16: endPeriod");
        DOCUMENT.says("Ends the period.");
        HiringHall hall = Halls.refused(3);
        hall.endShift();
        Halls.ordered(hall, 0, 1).dispatch();
        hall.endShift();
        Check.due("before", "8 8 / 3 0", Halls.hours(hall, 2) + " / " + Halls.refusals(hall, 2));
        hall.endPeriod();
        Check.due("after", "0 0 / 0 0", Halls.hours(hall, 2) + " / " + Halls.refusals(hall, 2));
        Halls.ordered(hall, 0, 1).dispatch();
        hall.endShift();
        Check.due("hours of the new period", "8 8", Halls.hours(hall, 2));
        Check.asked("a period without shifts changes nothing", 0, Halls::sixteenPlaces, HiringHall::endPeriod);
        Check.asked("a hall without workers", 0, HiringHall::new, HiringHall::endPeriod);

        DOCUMENT.says("Returns how many hours are owed to all workers together.");
        HiringHall owed = Halls.onBoards(0, 0, 1, 2, 3);
        owed.setRule(0, true, 1);
        owed.setRule(1, true, 20);
        owed.setRule(3, true, 400);
        Check.due("by boards", 1 + 1 + 20 + 400, owed.endPeriod());
        owed.setAway(4, true);
        Check.due("not to one away", 1 + 1 + 20, owed.endPeriod());
        owed.signOff(2);
        Check.due("nor to one signed off", 1 + 1, owed.endPeriod());
        HiringHall crowded = Halls.crowded(3);
        crowded.setRule(3, false, 400);
        Check.due("the most there can be", 12000, crowded.endPeriod());
        Check.due("again", 12000, crowded.endPeriod());
        HiringHall over = Halls.worked(2, 12);
        over.setRule(0, false, 10);
        Check.due("who has more hours owes nothing", 10, over.endPeriod());
        HiringHall thrice = Halls.refused(3);
        thrice.setRule(0, false, 10);
        Check.due("not to one who refused 3 times", 10, thrice.endPeriod());
        Check.due("but in the next period", 20, thrice.endPeriod());

        DOCUMENT.says(BEGUN);
        Check.refused("one is at work", Check.STATE, () -> Halls.atWork(1), HiringHall::endPeriod);
        Check.refused("16 are", Check.STATE, Halls::fullAtWork, HiringHall::endPeriod);
        Check.refused("one is and one has been at work", Check.STATE, Halls::busy, HiringHall::endPeriod);
        Check.refused("one has been at work", Check.STATE, Halls::allLeftAtOnce, HiringHall::endPeriod);
        Check.refused("one who is signed off has been", Check.STATE, Halls::leftAndSignedOff, HiringHall::endPeriod);
        Check.refused("one is at work as a replacement", Check.STATE, GangsTest::replaced, HiringHall::endPeriod);
        HiringHall ended = Halls.atWork(1);
        ended.endShift();
        Check.due("that was in the shift before", 0, ended.endPeriod());
        Check.due("refusing is no work", 0, Halls.refused(1).endPeriod());
    }
}
