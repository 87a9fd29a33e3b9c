import java.util.ArrayList;
import java.util.NoSuchElementException;

/** A hiring hall for longshore work. The document ../shared/DOC.md says what each public method promises. */
public final class HiringHall {
    public static final int NONE = -1;

    private static final int BOARDS = 4;
    private static final int MOST_WORKERS = 30;
    private static final int SKILLS = 5;
    private static final int SKILL_SETS = 32;
    private static final int MOST_PLACES = 16;
    private static final int MOST_GUARANTEED = 400;
    private static final int LONGEST_SHIFT = 12;
    private static final int USUAL_SHIFT = 8;
    private static final int REFUSALS_THAT_FORFEIT = 3;

    /** Everybody signed on, in turn: board by board, each from the top to the bottom. */
    private final ArrayList<Worker> turn = new ArrayList<Worker>();
    /** The turn as it was when a call began that changes it while going through it. */
    private final ArrayList<Worker> turnBefore = new ArrayList<Worker>();
    private final ArrayList<Worker> taken = new ArrayList<Worker>();
    private final Matching matching = new Matching();

    private final boolean[] refusalCosts = new boolean[BOARDS];
    private final int[] guaranteedHours = new int[BOARDS];
    private final int[] skillNeeded = new int[MOST_PLACES];

    private int nextNumber = 0;
    private int placeCount = 0;
    private int shiftHours = USUAL_SHIFT;
    private int shiftHour = 0;
    /** Kept apart from the workers, because those who left may sign off before the shift ends. */
    private int hoursOfLeavers = 0;
    private boolean workHasBegun = false;

    public HiringHall() {
    }

    // ---- workers and boards

    public int signOn(int board, int skills) throws IllegalArgumentException, IllegalStateException {
        checkBoard(board);
        checkSkills(skills);
        if (turn.size() >= MOST_WORKERS) {
            throw new IllegalStateException("30 workers are signed on");
        }
        Worker signed = new Worker(nextNumber, board, skills);
        nextNumber++;
        putAtBottom(signed);
        return signed.number;
    }

    public int signOff(int worker) throws NoSuchElementException, IllegalStateException {
        Worker leaver = find(worker);
        checkNotAtWork(leaver);
        takeOffBoard(leaver);
        return leaver.hours;
    }

    public int setSkills(int worker, int skills)
            throws NoSuchElementException, IllegalArgumentException, IllegalStateException {
        Worker learner = find(worker);
        checkSkills(skills);
        checkNotAtWork(learner);
        int before = learner.skills;
        learner.skills = skills;
        return before;
    }

    public int move(int worker, int board) throws NoSuchElementException, IllegalArgumentException {
        Worker moved = find(worker);
        checkBoard(board);
        int before = moved.board;
        takeOffBoard(moved);
        moved.board = board;
        putAtBottom(moved);
        return before;
    }

    public boolean setAway(int worker, boolean isAway) throws NoSuchElementException {
        Worker told = find(worker);
        boolean before = told.away;
        told.away = isAway;
        return before;
    }

    public boolean setRefusing(int worker, boolean refuses) throws NoSuchElementException {
        Worker told = find(worker);
        boolean before = told.refusing;
        told.refusing = refuses;
        return before;
    }

    public int setRule(int board, boolean costs, int guaranteed) throws IllegalArgumentException {
        checkBoard(board);
        if (guaranteed < 0 || guaranteed > MOST_GUARANTEED) {
            throw new IllegalArgumentException("guaranteed hours are 0 to 400");
        }
        int before = guaranteedHours[board];
        refusalCosts[board] = costs;
        guaranteedHours[board] = guaranteed;
        return before;
    }

    public int equalise(int board) throws IllegalArgumentException {
        checkBoard(board);
        rememberTurn();
        for (int i = 0; i < turn.size(); i++) {
            if (turn.get(i).board == board) {
                riseByHours(i);
            }
        }
        return countDisplaced();
    }

    // ---- orders and gangs

    public int order(int skill) throws IllegalArgumentException, IllegalStateException {
        if (skill < 0 || skill >= SKILLS) {
            throw new IllegalArgumentException("skills are 0 to 4");
        }
        if (placeCount >= MOST_PLACES) {
            throw new IllegalStateException("there are 16 places");
        }
        int place = placeCount;
        skillNeeded[place] = skill;
        placeCount++;
        return place;
    }

    public int dispatch() {
        matching.clear();
        matchOpenPlaces();
        takeInTurn();
        placeTaken();
        return taken.size();
    }

    public int setHours(int hours) throws IllegalArgumentException, IllegalStateException {
        if (hours < 1 || hours > LONGEST_SHIFT) {
            throw new IllegalArgumentException("a shift has 1 to 12 hours");
        }
        checkWorkHasNotBegun();
        int before = shiftHours;
        shiftHours = hours;
        return before;
    }

    public int leave(int worker, int hour)
            throws NoSuchElementException, IllegalArgumentException, IllegalStateException {
        Worker leaver = find(worker);
        if (hour < 0 || hour > shiftHours) {
            throw new IllegalArgumentException("the shift has no such hour");
        }
        if (!leaver.isAtWork() || hour < shiftHour) {
            throw new IllegalStateException("the worker is not at work, or the hour is past");
        }
        int place = leaver.place;
        shiftHour = hour;
        hoursOfLeavers += leaver.stopWork(hour);
        return place;
    }

    public int replace(int place) throws NoSuchElementException, IllegalStateException {
        checkPlace(place);
        if (!isOpen(place)) {
            throw new IllegalStateException("the place is filled");
        }
        int skill = skillNeeded[place];
        rememberTurn();
        for (int i = 0; i < turnBefore.size(); i++) {
            Worker asked = turnBefore.get(i);
            if (asked.isReady() && asked.hasSkill(skill)) {
                if (!asked.refusing) {
                    startWork(asked, place);
                    return asked.number;
                }
                countRefusal(asked);
            }
        }
        return NONE;
    }

    public int endShift() {
        int worked = hoursOfLeavers;
        for (int i = 0; i < turn.size(); i++) {
            Worker ending = turn.get(i);
            if (ending.isAtWork()) {
                worked += ending.stopWork(shiftHours);
            }
            ending.wasAtWork = false;
            ending.refusing = false;
        }
        placeCount = 0;
        shiftHour = 0;
        hoursOfLeavers = 0;
        workHasBegun = false;
        return worked;
    }

    public int endPeriod() throws IllegalStateException {
        checkWorkHasNotBegun();
        int owed = 0;
        for (int i = 0; i < turn.size(); i++) {
            Worker paid = turn.get(i);
            owed += hoursOwed(paid);
            paid.hours = 0;
            paid.refusals = 0;
        }
        return owed;
    }

    // ---- questions

    public int workers() {
        return turn.size();
    }

    public int boardOf(int worker) throws NoSuchElementException {
        return find(worker).board;
    }

    public int rankOf(int worker) throws NoSuchElementException {
        Worker ranked = find(worker);
        int above = 0;
        for (int i = 0; i < turn.size() && turn.get(i) != ranked; i++) {
            if (turn.get(i).board == ranked.board) {
                above++;
            }
        }
        return above;
    }

    public int hoursOf(int worker) throws NoSuchElementException {
        return find(worker).hours;
    }

    public int refusalsOf(int worker) throws NoSuchElementException {
        return find(worker).refusals;
    }

    public int placeOf(int worker) throws NoSuchElementException {
        return find(worker).place;
    }

    public int owedTo(int worker) throws NoSuchElementException {
        return hoursOwed(find(worker));
    }

    public int places() {
        return placeCount;
    }

    public int workerAt(int place) throws NoSuchElementException {
        checkPlace(place);
        return holderOf(place);
    }

    public int nextUp(int board) throws IllegalArgumentException {
        checkBoard(board);
        for (int i = 0; i < turn.size(); i++) {
            Worker standing = turn.get(i);
            if (standing.board == board && standing.isReady()) {
                return standing.number;
            }
        }
        return NONE;
    }

    public int fillable() {
        matching.clear();
        matchOpenPlaces();
        for (int i = 0; i < turn.size(); i++) {
            Worker willing = turn.get(i);
            if (willing.isReady() && !willing.refusing) {
                matching.addWorker(willing.skills);
            }
        }
        return matching.mostPlaced();
    }

    // ---- the tests of arguments and state

    private Worker find(int worker) throws NoSuchElementException {
        for (int i = 0; i < turn.size(); i++) {
            Worker found = turn.get(i);
            if (found.number == worker) {
                return found;
            }
        }
        throw new NoSuchElementException("there is no such worker");
    }

    private void checkPlace(int place) throws NoSuchElementException {
        if (place < 0 || place >= placeCount) {
            throw new NoSuchElementException("there is no such place");
        }
    }

    private static void checkBoard(int board) throws IllegalArgumentException {
        if (board < 0 || board >= BOARDS) {
            throw new IllegalArgumentException("boards are 0 to 3");
        }
    }

    private static void checkSkills(int skills) throws IllegalArgumentException {
        if (skills < 0 || skills >= SKILL_SETS) {
            throw new IllegalArgumentException("a set of skills is 0 to 31");
        }
    }

    private static void checkNotAtWork(Worker worker) throws IllegalStateException {
        if (worker.isAtWork()) {
            throw new IllegalStateException("the worker is at work");
        }
    }

    private void checkWorkHasNotBegun() throws IllegalStateException {
        if (workHasBegun) {
            throw new IllegalStateException("somebody is or has been at work in this shift");
        }
    }

    // ---- the order of the boards

    private void takeOffBoard(Worker worker) {
        for (int i = 0; i < turn.size(); i++) {
            if (turn.get(i) == worker) {
                turn.remove(i);
                return;
            }
        }
    }

    private void putAtBottom(Worker worker) {
        int at = 0;
        while (at < turn.size() && turn.get(at).board <= worker.board) {
            at++;
        }
        turn.add(at, worker);
    }

    private void sendToBottom(Worker worker) {
        takeOffBoard(worker);
        putAtBottom(worker);
    }

    private void rememberTurn() {
        turnBefore.clear();
        for (int i = 0; i < turn.size(); i++) {
            turnBefore.add(turn.get(i));
        }
    }

    /** Lets the worker at a place of the turn pass those of the board who have more hours. */
    private void riseByHours(int from) {
        for (int at = from; at > 0 && at < turn.size(); at--) {
            Worker below = turn.get(at);
            Worker above = turn.get(at - 1);
            if (above.board != below.board || above.hours <= below.hours) {
                return;
            }
            turn.set(at - 1, below);
            turn.set(at, above);
        }
    }

    private int countDisplaced() {
        int displaced = 0;
        for (int i = 0; i < turn.size() && i < turnBefore.size(); i++) {
            if (turn.get(i) != turnBefore.get(i)) {
                displaced++;
            }
        }
        return displaced;
    }

    // ---- dispatching

    private void matchOpenPlaces() {
        for (int place = 0; place < placeCount; place++) {
            if (isOpen(place)) {
                matching.addPlace(skillNeeded[place]);
            }
        }
    }

    private void takeInTurn() {
        taken.clear();
        rememberTurn();
        for (int i = 0; i < turnBefore.size(); i++) {
            Worker asked = turnBefore.get(i);
            if (asked.isReady() && matching.canPlaceAlso(asked.skills)) {
                if (asked.refusing) {
                    countRefusal(asked);
                } else {
                    matching.addWorker(asked.skills);
                    taken.add(asked);
                }
            }
        }
    }

    private void placeTaken() {
        for (int i = 0; i < taken.size(); i++) {
            Worker placed = taken.get(i);
            matching.removeWorker(placed.skills);
            int place = lowestPlaceFor(placed);
            if (place != NONE) {
                matching.removePlace(skillNeeded[place]);
                startWork(placed, place);
            }
        }
    }

    private int lowestPlaceFor(Worker worker) {
        for (int place = 0; place < placeCount; place++) {
            int skill = skillNeeded[place];
            if (isOpen(place) && worker.hasSkill(skill) && matching.canSpare(skill)) {
                return place;
            }
        }
        return NONE;
    }

    private void startWork(Worker worker, int place) {
        worker.place = place;
        worker.cameInAt = shiftHour;
        worker.wasAtWork = true;
        workHasBegun = true;
        sendToBottom(worker);
    }

    private void countRefusal(Worker worker) {
        worker.refusals++;
        if (refusalCosts[worker.board]) {
            sendToBottom(worker);
        }
    }

    private boolean isOpen(int place) {
        return holderOf(place) == NONE;
    }

    private int holderOf(int place) {
        for (int i = 0; i < turn.size(); i++) {
            if (turn.get(i).place == place) {
                return turn.get(i).number;
            }
        }
        return NONE;
    }

    private int hoursOwed(Worker worker) {
        int missing = guaranteedHours[worker.board] - worker.hours;
        boolean entitled = !worker.away && worker.refusals < REFUSALS_THAT_FORFEIT;
        return entitled && missing > 0 ? missing : 0;
    }

    /** Somebody signed on. */
    private static final class Worker {
        final int number;
        int board;
        int skills;
        boolean away = false;
        boolean refusing = false;
        int hours = 0;
        int refusals = 0;
        int place = NONE;
        int cameInAt = 0;
        /** In this shift, whether or not the worker still is. */
        boolean wasAtWork = false;

        Worker(int number, int board, int skills) {
            this.number = number;
            this.board = board;
            this.skills = skills;
        }

        boolean isAtWork() {
            return place != NONE;
        }

        boolean isReady() {
            return !away && !wasAtWork;
        }

        boolean hasSkill(int skill) {
            return (skills >> skill & 1) == 1;
        }

        int stopWork(int hour) {
            int worked = hour - cameInAt;
            hours += worked;
            place = NONE;
            return worked;
        }
    }

    /**
     * Who can be given places together, each another one. Places differ by their skill alone, so it is enough to
     * count for every set of skills: by Hall's theorem all workers can be placed if no set has more workers without
     * a skill outside it than places that need a skill in it.
     */
    private static final class Matching {
        private final int[] workersWithin = new int[SKILL_SETS];
        private final int[] placesWithin = new int[SKILL_SETS];

        void clear() {
            for (int set = 0; set < SKILL_SETS; set++) {
                workersWithin[set] = 0;
                placesWithin[set] = 0;
            }
        }

        void addWorker(int skills) {
            for (int set = 0; set < SKILL_SETS; set++) {
                workersWithin[set] += oneIfWithin(skills, set);
            }
        }

        void removeWorker(int skills) {
            for (int set = 0; set < SKILL_SETS; set++) {
                workersWithin[set] -= oneIfWithin(skills, set);
            }
        }

        void addPlace(int skill) {
            for (int set = 0; set < SKILL_SETS; set++) {
                placesWithin[set] += oneIfWithin(1 << skill, set);
            }
        }

        void removePlace(int skill) {
            for (int set = 0; set < SKILL_SETS; set++) {
                placesWithin[set] -= oneIfWithin(1 << skill, set);
            }
        }

        boolean canPlaceAlso(int skills) {
            for (int set = 0; set < SKILL_SETS; set++) {
                if (workersWithin[set] + oneIfWithin(skills, set) > placesWithin[set]) {
                    return false;
                }
            }
            return true;
        }

        /** Whether all workers can be placed without one of the places that need a skill. */
        boolean canSpare(int skill) {
            for (int set = 0; set < SKILL_SETS; set++) {
                if (workersWithin[set] > placesWithin[set] - oneIfWithin(1 << skill, set)) {
                    return false;
                }
            }
            return true;
        }

        /** The other half of Hall's theorem: those left over are what the set that lacks most places lacks. */
        int mostPlaced() {
            int everybody = workersWithin[SKILL_SETS - 1];
            int leftOver = 0;
            for (int set = 0; set < SKILL_SETS; set++) {
                leftOver = Math.max(leftOver, workersWithin[set] - placesWithin[set]);
            }
            return everybody - leftOver;
        }

        private static int oneIfWithin(int skills, int set) {
            return (skills & ~set) == 0 ? 1 : 0;
        }
    }
}
