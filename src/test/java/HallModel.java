import java.util.ArrayList;
import java.util.Comparator;
import java.util.HashSet;
import java.util.List;
import java.util.NoSuchElementException;
import java.util.Set;

/**
 * The document once more, told as differently as can be: a list for each board, places that know who fills them, and
 * gangs found by trying who can swap places with whom. It is slow and takes the Java library freely.
 */
public final class HallModel {
    private static final class Member {
        int number;
        int board;
        int skills;
        boolean away;
        boolean refuses;
        int hours;
        int refused;
        int since;
    }

    private static final class Spot {
        int skill;
        Member member;
    }

    private final List<List<Member>> boards = new ArrayList<>();
    private final List<Spot> spots = new ArrayList<>();
    private final Set<Integer> workedNumbers = new HashSet<>();
    private final boolean[] costs = new boolean[4];
    private final int[] guarantees = new int[4];
    private int signed = 0;
    private int length = 8;
    private int now = 0;
    private int doneByLeavers = 0;

    public HallModel() {
        for (int i = 0; i < 4; i++) {
            boards.add(new ArrayList<>());
        }
    }

    public int signOn(int board, int skills) {
        argument(board >= 0 && board <= 3 && skills >= 0 && skills <= 31);
        state(workers() < 30);
        Member m = new Member();
        m.number = signed++;
        m.board = board;
        m.skills = skills;
        boards.get(board).add(m);
        return m.number;
    }

    public int signOff(int worker) {
        Member m = member(worker);
        state(spotOf(m) == null);
        boards.get(m.board).remove(m);
        return m.hours;
    }

    public int setSkills(int worker, int skills) {
        Member m = member(worker);
        argument(skills >= 0 && skills <= 31);
        state(spotOf(m) == null);
        int old = m.skills;
        m.skills = skills;
        return old;
    }

    public int move(int worker, int board) {
        Member m = member(worker);
        argument(board >= 0 && board <= 3);
        int old = m.board;
        boards.get(old).remove(m);
        m.board = board;
        boards.get(board).add(m);
        return old;
    }

    public boolean setAway(int worker, boolean isAway) {
        Member m = member(worker);
        boolean old = m.away;
        m.away = isAway;
        return old;
    }

    public boolean setRefusing(int worker, boolean refuses) {
        Member m = member(worker);
        boolean old = m.refuses;
        m.refuses = refuses;
        return old;
    }

    public int setRule(int board, boolean cost, int guaranteed) {
        argument(board >= 0 && board <= 3 && guaranteed >= 0 && guaranteed <= 400);
        int old = guarantees[board];
        costs[board] = cost;
        guarantees[board] = guaranteed;
        return old;
    }

    public int equalise(int board) {
        argument(board >= 0 && board <= 3);
        List<Member> old = new ArrayList<>(boards.get(board));
        boards.get(board).sort(Comparator.comparingInt(m -> m.hours));
        int changed = 0;
        for (int i = 0; i < old.size(); i++) {
            changed += old.get(i) == boards.get(board).get(i) ? 0 : 1;
        }
        return changed;
    }

    public int order(int skill) {
        argument(skill >= 0 && skill <= 4);
        state(spots.size() < 16);
        Spot s = new Spot();
        s.skill = skill;
        spots.add(s);
        return spots.size() - 1;
    }

    public int dispatch() {
        List<Member> gang = new ArrayList<>();
        for (Member m : inTurn()) {
            if (!ready(m)) {
                continue;
            }
            gang.add(m);
            if (matched(gang, open()) < gang.size()) {
                gang.remove(m);
            } else if (m.refuses) {
                gang.remove(m);
                refuse(m);
            }
        }
        for (int i = 0; i < gang.size(); i++) {
            Member m = gang.get(i);
            List<Member> after = gang.subList(i + 1, gang.size());
            for (Spot s : open()) {
                List<Spot> rest = open();
                rest.remove(s);
                if (has(m, s.skill) && matched(after, rest) == after.size()) {
                    give(m, s);
                    break;
                }
            }
        }
        for (Member m : gang) {
            move(m.number, m.board);
        }
        return gang.size();
    }

    public int setHours(int hours) {
        argument(hours >= 1 && hours <= 12);
        state(workedNumbers.isEmpty());
        int old = length;
        length = hours;
        return old;
    }

    public int leave(int worker, int hour) {
        Member m = member(worker);
        argument(hour >= 0 && hour <= length);
        state(spotOf(m) != null && hour >= now);
        Spot s = spotOf(m);
        s.member = null;
        now = hour;
        m.hours += hour - m.since;
        doneByLeavers += hour - m.since;
        return spots.indexOf(s);
    }

    public int replace(int place) {
        Spot s = spot(place);
        state(s.member == null);
        for (Member m : inTurn()) {
            if (ready(m) && has(m, s.skill)) {
                if (m.refuses) {
                    refuse(m);
                } else {
                    give(m, s);
                    move(m.number, m.board);
                    return m.number;
                }
            }
        }
        return -1;
    }

    public int endShift() {
        int sum = doneByLeavers;
        for (Spot s : spots) {
            if (s.member != null) {
                s.member.hours += length - s.member.since;
                sum += length - s.member.since;
            }
        }
        for (Member m : inTurn()) {
            m.refuses = false;
        }
        spots.clear();
        workedNumbers.clear();
        now = 0;
        doneByLeavers = 0;
        return sum;
    }

    public int endPeriod() {
        state(workedNumbers.isEmpty());
        int sum = 0;
        for (Member m : inTurn()) {
            sum += owedTo(m.number);
            m.hours = 0;
            m.refused = 0;
        }
        return sum;
    }

    public int workers() {
        return inTurn().size();
    }

    public int boardOf(int worker) {
        return member(worker).board;
    }

    public int rankOf(int worker) {
        Member m = member(worker);
        return boards.get(m.board).indexOf(m);
    }

    public int hoursOf(int worker) {
        return member(worker).hours;
    }

    public int refusalsOf(int worker) {
        return member(worker).refused;
    }

    public int placeOf(int worker) {
        return spots.indexOf(spotOf(member(worker)));
    }

    public int owedTo(int worker) {
        Member m = member(worker);
        if (m.away || m.refused >= 3 || m.hours >= guarantees[m.board]) {
            return 0;
        }
        return guarantees[m.board] - m.hours;
    }

    public int places() {
        return spots.size();
    }

    public int workerAt(int place) {
        Spot s = spot(place);
        return s.member == null ? -1 : s.member.number;
    }

    public int nextUp(int board) {
        argument(board >= 0 && board <= 3);
        for (Member m : boards.get(board)) {
            if (ready(m)) {
                return m.number;
            }
        }
        return -1;
    }

    public int fillable() {
        List<Member> willing = inTurn();
        willing.removeIf(m -> !ready(m) || m.refuses);
        return matched(willing, open());
    }

    private List<Member> inTurn() {
        List<Member> all = new ArrayList<>();
        boards.forEach(all::addAll);
        return all;
    }

    private boolean ready(Member m) {
        return !m.away && spotOf(m) == null && !workedNumbers.contains(m.number);
    }

    private boolean has(Member m, int skill) {
        return (m.skills & (1 << skill)) != 0;
    }

    private List<Spot> open() {
        List<Spot> open = new ArrayList<>(spots);
        open.removeIf(s -> s.member != null);
        return open;
    }

    private void refuse(Member m) {
        m.refused++;
        if (costs[m.board]) {
            move(m.number, m.board);
        }
    }

    private void give(Member m, Spot s) {
        s.member = m;
        m.since = now;
        workedNumbers.add(m.number);
    }

    private int matched(List<Member> members, List<Spot> free) {
        Member[] holders = new Member[free.size()];
        int found = 0;
        for (Member m : members) {
            if (seat(m, free, holders, new boolean[free.size()])) {
                found++;
            }
        }
        return found;
    }

    private boolean seat(Member m, List<Spot> free, Member[] holders, boolean[] tried) {
        for (int i = 0; i < holders.length; i++) {
            if (!tried[i] && has(m, free.get(i).skill)) {
                tried[i] = true;
                if (holders[i] == null || seat(holders[i], free, holders, tried)) {
                    holders[i] = m;
                    return true;
                }
            }
        }
        return false;
    }

    private Spot spotOf(Member m) {
        for (Spot s : spots) {
            if (s.member == m) {
                return s;
            }
        }
        return null;
    }

    private Spot spot(int place) {
        if (place < 0 || place >= spots.size()) {
            throw new NoSuchElementException();
        }
        return spots.get(place);
    }

    private Member member(int worker) {
        for (Member m : inTurn()) {
            if (m.number == worker) {
                return m;
            }
        }
        throw new NoSuchElementException();
    }

    private static void argument(boolean good) {
        if (!good) {
            throw new IllegalArgumentException();
        }
    }

    private static void state(boolean good) {
        if (!good) {
            throw new IllegalStateException();
        }
    }
}
