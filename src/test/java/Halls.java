/** Halls to begin a test with, and what is seen of them at a glance. */
final class Halls {
    private Halls() {
    }

    /** Workers 0, 1, .. on board 0, each with the skills told. */
    static HiringHall of(int... skills) {
        HiringHall hall = new HiringHall();
        for (int s : skills) {
            hall.signOn(0, s);
        }
        return hall;
    }

    /** Workers 0, 1, .. with all skills, each on the board told. */
    static HiringHall onBoards(int... boards) {
        HiringHall hall = new HiringHall();
        for (int board : boards) {
            hall.signOn(board, 31);
        }
        return hall;
    }

    static HiringHall ordered(HiringHall hall, int... skills) {
        for (int s : skills) {
            hall.order(s);
        }
        return hall;
    }

    static HiringHall refusing(HiringHall hall, int... workers) {
        for (int worker : workers) {
            hall.setRefusing(worker, true);
        }
        return hall;
    }

    /** So many workers with skill 0 on board 0, at work at as many places. */
    static HiringHall atWork(int workers) {
        HiringHall hall = new HiringHall();
        for (int worker = 0; worker < workers; worker++) {
            hall.signOn(0, 1);
            hall.order(0);
        }
        hall.dispatch();
        return hall;
    }

    /** Worker 0 left place 0 at hour 2, worker 1 fills place 1, worker 2 refuses, worker 3 is away; place 0 is open. */
    static HiringHall busy() {
        HiringHall hall = ordered(of(1, 3, 1, 1, 1), 0, 1);
        hall.signOn(2, 31);
        hall.setRule(0, true, 30);
        hall.setRule(2, false, 7);
        hall.setRefusing(2, true);
        hall.setAway(3, true);
        hall.dispatch();
        hall.leave(0, 2);
        return hall;
    }

    /** 30 workers, the worker k on the board k % 4 with the skills k. */
    static HiringHall full() {
        HiringHall hall = new HiringHall();
        for (int i = 0; i < 30; i++) {
            hall.signOn(i % 4, i);
        }
        return hall;
    }

    /** 30 workers with all skills on one board. */
    static HiringHall crowded(int board) {
        HiringHall hall = new HiringHall();
        for (int i = 0; i < 30; i++) {
            hall.signOn(board, 31);
        }
        return hall;
    }

    /** 30 workers and 16 places; the worker k is at work at the place k, as far as there are places. */
    static HiringHall fullAtWork() {
        HiringHall hall = crowded(0);
        for (int place = 0; place < 16; place++) {
            hall.order(place % 5);
        }
        hall.dispatch();
        return hall;
    }

    /** Two workers and 16 open places. */
    static HiringHall sixteenPlaces() {
        HiringHall hall = of(31, 31);
        for (int place = 0; place < 16; place++) {
            hall.order(place % 5);
        }
        return hall;
    }

    /** The only one who was at work in the shift left at hour 0. */
    static HiringHall allLeftAtOnce() {
        HiringHall hall = ordered(of(1, 2), 0);
        hall.setRule(0, true, 9);
        hall.dispatch();
        hall.leave(0, 0);
        return hall;
    }

    static HiringHall leftAndSignedOff() {
        HiringHall hall = allLeftAtOnce();
        hall.signOff(0);
        return hall;
    }

    /** Workers 0 and 1; worker 0 has worked so many shifts of so many hours. */
    static HiringHall worked(int shifts, int hours) {
        HiringHall hall = of(1, 2);
        hall.setHours(hours);
        for (int shift = 0; shift < shifts; shift++) {
            hall.order(0);
            hall.dispatch();
            hall.endShift();
        }
        return hall;
    }

    /** Workers 0 and 1 on board 0; worker 0 has refused so many times the place 0 that is open still. */
    static HiringHall refused(int times) {
        HiringHall hall = refusing(ordered(of(1, 2), 0), 0);
        for (int i = 0; i < times; i++) {
            hall.replace(0);
        }
        return hall;
    }

    static String ranks(HiringHall hall, int count) {
        StringBuilder ranks = new StringBuilder();
        for (int worker = 0; worker < count; worker++) {
            ranks.append(worker == 0 ? "" : " ").append(hall.rankOf(worker));
        }
        return ranks.toString();
    }

    static String refusals(HiringHall hall, int count) {
        StringBuilder refusals = new StringBuilder();
        for (int worker = 0; worker < count; worker++) {
            refusals.append(worker == 0 ? "" : " ").append(hall.refusalsOf(worker));
        }
        return refusals.toString();
    }

    static String hours(HiringHall hall, int count) {
        StringBuilder hours = new StringBuilder();
        for (int worker = 0; worker < count; worker++) {
            hours.append(worker == 0 ? "" : " ").append(hall.hoursOf(worker));
        }
        return hours.toString();
    }

    /** Who is at the places 0, 1, .. */
    static String filled(HiringHall hall) {
        StringBuilder filled = new StringBuilder();
        for (int place = 0; place < hall.places(); place++) {
            filled.append(place == 0 ? "" : " ").append(hall.workerAt(place));
        }
        return filled.toString();
    }
}
