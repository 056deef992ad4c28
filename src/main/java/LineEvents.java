/**
 * A line of machines that fill and pack bottles, with buffers between them,
 * faults by chance, and rows of stops; time goes in tenths of a second.
 */
public final class LineEvents {
    public static final int NONE = -1;
    public static final int FULL = -2;

    private static final int MAX_MACHINES = 12;
    private static final int MAX_TAKES = 10_000;
    private static final int MAX_ROOM = 1_000;
    private static final int MAX_DELAY = 10_000;
    private static final int MAX_FAULTS = 4;
    private static final long MAX_BELOW = 1_000_000L;
    private static final int MAX_FAULT_TENTHS = 100_000;
    private static final int MAX_ROWS = 64;
    private static final int MAX_CHANGE = 1_000_000;
    private static final int MAX_RUN = 100_000;
    private static final int LAST_INSTANT = 1_000_000_000;

    private static final int MAX_EVENTS = 1_000;
    private static final int EVENT_PARTS = 3;
    private static final int TAKES = 0;
    private static final int LEAVES = 1;
    private static final int REJECTS = 2;
    private static final int STANDS = 3;

    private static final int CAUSES = 12;
    private static final int WORK = 0;
    private static final int CHANGE = 1;
    private static final int REST = 2;
    private static final int FAULT = 3;
    private static final int FIRST_ROW_CAUSE = 4;
    private static final int LAST_ROW_CAUSE = 9;
    private static final int STARVED = 10;
    private static final int BLOCKED = 11;

    private static final int BEHIND_NONE = -1;
    private static final int ALL = -1;

    private static final long FACTOR = 6364136223846793005L;
    private static final long SUMMAND = 1442695040888963407L;

    private long drawn;
    private int now;
    /** The machine of the highest number: the chain goes down from it, as the machines act. */
    private Machine highest;
    private int machineCount;
    private Row newestRow;
    private int rowCount;
    /** Up to this instant no row begins or ends, so what the machines know of rows stays true. */
    private int rowsTurn;
    private final int[] events = new int[MAX_EVENTS * EVENT_PARTS];
    private int eventCount;
    private long begunCount;
    private long madeCount;

    public LineEvents(long seed) {
        drawn = seed;
    }

    public int machine(int tenths, int after) {
        Machine ahead = find(after);
        boolean placed = after == BEHIND_NONE || (ahead != null && !ahead.followed);
        if (now > 0 || !within(tenths, 1, MAX_TAKES) || !placed) {
            return NONE;
        }
        if (machineCount >= MAX_MACHINES) {
            return FULL;
        }
        highest = new Machine(machineCount, tenths, highest, ahead);
        if (ahead != null) {
            ahead.followed = true;
        }
        machineCount++;
        return highest.number;
    }

    public int buffer(int machine, int room, int delay) {
        Machine found = find(machine);
        if (now > 0 || found == null || !within(room, 1, MAX_ROOM) || !within(delay, 0, MAX_DELAY)) {
            return NONE;
        }
        int before = found.behind.room;
        found.behind.room = room;
        found.behind.delay = delay;
        return before;
    }

    public boolean fault(int machine, long above, long below, int tenths) {
        Machine found = find(machine);
        if (now > 0 || found == null || found.faultCount >= MAX_FAULTS) {
            return false;
        }
        if (below < 1 || below > MAX_BELOW || above < 0 || above > below) {
            return false;
        }
        if (!within(tenths, 0, MAX_FAULT_TENTHS)) {
            return false;
        }
        found.addFault(new Fault(above, below, tenths));
        return true;
    }

    public boolean row(int machine, int from, int to, int cause) {
        return find(machine) != null
            && within(cause, FIRST_ROW_CAUSE, LAST_ROW_CAUSE)
            && addRow(machine, from, to, cause);
    }

    public int run(int tenths) {
        if (!within(tenths, 0, MAX_RUN) || tenths > LAST_INSTANT - now) {
            return NONE;
        }
        eventCount = 0;
        int left = tenths;
        while (left > 0) {
            if (now >= rowsTurn) {
                lookAtRows();
            }
            actAll();
            int step = Math.max(1, Math.min(left, quietTenths()));
            passTime(step);
            left -= step;
        }
        return eventCount;
    }

    public int event(int k, int what) {
        if (k < 0 || k >= eventCount || k >= MAX_EVENTS || !within(what, 0, EVENT_PARTS - 1)) {
            return NONE;
        }
        return events[k * EVENT_PARTS + what];
    }

    public long made() {
        return madeCount;
    }

    public long inside() {
        long bottles = 0;
        for (Machine m = highest; m != null; m = m.lower) {
            bottles += m.behind.count;
            if (m.hasBottle) {
                bottles++;
            }
        }
        return bottles;
    }

    public long lost(int machine, int cause) throws ArrayIndexOutOfBoundsException {
        Machine found = known(machine);
        return isCause(cause) ? found.times[cause] / found.takes : NONE;
    }

    public long rejected(int machine) throws ArrayIndexOutOfBoundsException {
        return known(machine).rejectedCount;
    }

    public boolean change(int from, int tenths) {
        // Compared by subtraction, since the sum could wrap around.
        return within(tenths, 1, MAX_CHANGE)
            && from <= LAST_INSTANT - tenths
            && addRow(ALL, from, from + tenths, CHANGE);
    }

    public boolean rest(int from, int to) {
        return addRow(ALL, from, to, REST);
    }

    public long time(int machine, int cause) throws ArrayIndexOutOfBoundsException {
        Machine found = known(machine);
        return isCause(cause) ? found.times[cause] : NONE;
    }

    public boolean kept() {
        long accounted = madeCount + inside();
        for (Machine m = highest; m != null; m = m.lower) {
            accounted += m.rejectedCount;
            if (m.allTimes() != now) {
                return false;
            }
        }
        return accounted == begunCount;
    }

    private static boolean within(int number, int least, int most) {
        return number >= least && number <= most;
    }

    private static boolean isCause(int cause) {
        return within(cause, 0, CAUSES - 1);
    }

    /** The machine of that number, or null when there is none. */
    private Machine find(int number) {
        for (Machine m = highest; m != null; m = m.lower) {
            if (m.number == number) {
                return m;
            }
        }
        return null;
    }

    private Machine known(int number) {
        Machine found = find(number);
        if (found == null) {
            throw new ArrayIndexOutOfBoundsException("no such machine");
        }
        return found;
    }

    private boolean addRow(int machine, int from, int to, int cause) {
        if (rowCount >= MAX_ROWS || from < now || to <= from || to > LAST_INSTANT) {
            return false;
        }
        newestRow = new Row(machine, from, to, cause, newestRow);
        rowCount++;
        rowsTurn = now;
        return true;
    }

    private void lookAtRows() {
        for (Machine m = highest; m != null; m = m.lower) {
            m.rowCause = rowCauseOf(m.number);
        }
        rowsTurn = LAST_INSTANT;
        for (Row r = newestRow; r != null; r = r.earlier) {
            rowsTurn = Math.min(rowsTurn, r.turnBehind(now));
        }
    }

    private int rowCauseOf(int number) {
        int cause = NONE;
        // The chain ends with the row that was told first, and that one's cause counts.
        for (Row r = newestRow; r != null; r = r.earlier) {
            if (r.holds(number, now)) {
                cause = r.cause;
            }
        }
        return cause;
    }

    private void actAll() {
        for (Machine m = highest; m != null; m = m.lower) {
            if (!m.stands(now)) {
                act(m);
            }
        }
    }

    private void act(Machine m) {
        if (m.isDone() && !m.judged) {
            judge(m);
            if (m.stands(now)) {
                return;
            }
        }
        if (m.judged) {
            leave(m);
        }
        if (!m.hasBottle) {
            take(m);
        }
    }

    private void judge(Machine m) {
        int longest = 0;
        for (Fault f = m.firstFault; f != null; f = f.next) {
            if (draw(f.below) < f.above) {
                if (f.tenths == 0) {
                    reject(m);
                    return;
                }
                longest = Math.max(longest, f.tenths);
            }
        }
        m.judged = true;
        if (longest > 0) {
            m.faultEnd = now + longest;
            note(m, STANDS);
        }
    }

    /** A number 0 .. below - 1; below is at least 1, since fault refuses others. */
    private long draw(long below) {
        drawn = drawn * FACTOR + SUMMAND;
        return (drawn >>> 33) % below;
    }

    private void reject(Machine m) {
        m.putAway();
        m.rejectedCount++;
        note(m, REJECTS);
    }

    private void leave(Machine m) {
        if (!m.followed) {
            madeCount++;
        } else if (m.behind.hasRoom()) {
            m.behind.add(now);
        } else {
            return;
        }
        m.putAway();
        note(m, LEAVES);
    }

    private void take(Machine m) {
        if (m.before == null) {
            begunCount++;
        } else if (m.before.isReady(now)) {
            m.before.removeFirst();
        } else {
            return;
        }
        m.hasBottle = true;
        note(m, TAKES);
    }

    private void note(Machine m, int kind) {
        if (eventCount < MAX_EVENTS) {
            int place = eventCount * EVENT_PARTS;
            events[place] = now;
            events[place + 1] = m.number;
            events[place + 2] = kind;
        }
        eventCount++;
    }

    /** For how many tenths no machine can do anything new, so that they may pass at once. */
    private int quietTenths() {
        int quiet = rowsTurn - now;
        for (Machine m = highest; m != null; m = m.lower) {
            quiet = Math.min(quiet, m.quietTenths(now));
        }
        return quiet;
    }

    private void passTime(int tenths) {
        for (Machine m = highest; m != null; m = m.lower) {
            m.spend(m.causeAt(now), tenths);
        }
        now += tenths;
    }

    private static final class Machine {
        final int number;
        final int takes;
        /** The machine of the next lower number, or null. */
        final Machine lower;
        /** The buffer before it, or null when no machine stands there. */
        final Buffer before;
        final Buffer behind = new Buffer();
        boolean followed;
        Fault firstFault;
        Fault lastFault;
        int faultCount;
        /** The cause of the row that holds for it, or NONE. */
        int rowCause = NONE;
        int faultEnd;
        boolean hasBottle;
        int worked;
        boolean judged;
        long rejectedCount;
        final long[] times = new long[CAUSES];

        Machine(int number, int takes, Machine lower, Machine ahead) {
            this.number = number;
            this.takes = takes;
            this.lower = lower;
            this.before = ahead == null ? null : ahead.behind;
        }

        void addFault(Fault added) {
            if (lastFault == null) {
                firstFault = added;
            } else {
                lastFault.next = added;
            }
            lastFault = added;
            faultCount++;
        }

        boolean stands(int instant) {
            return rowCause != NONE || instant < faultEnd;
        }

        boolean isDone() {
            return hasBottle && worked >= takes;
        }

        void putAway() {
            hasBottle = false;
            judged = false;
            worked = 0;
        }

        int causeAt(int instant) {
            if (rowCause != NONE) {
                return rowCause;
            }
            if (instant < faultEnd) {
                return FAULT;
            }
            if (!hasBottle) {
                return STARVED;
            }
            return worked < takes ? WORK : BLOCKED;
        }

        /**
         * A row's end is looked at for all machines at once, and one that is blocked
         * waits for what the machine behind it does: neither sets a bound of its own.
         */
        int quietTenths(int instant) {
            switch (causeAt(instant)) {
                case WORK:
                    return takes - worked;
                case FAULT:
                    return faultEnd - instant;
                case STARVED:
                    return before == null ? 0 : before.readyAt() - instant;
                default:
                    return LAST_INSTANT;
            }
        }

        void spend(int cause, int tenths) {
            times[cause] += tenths;
            if (cause == WORK) {
                worked += tenths;
            }
        }

        long allTimes() {
            long sum = 0;
            for (long tenths : times) {
                sum += tenths;
            }
            return sum;
        }
    }

    /** Only the instants at which its bottles came are kept, in a ring: bottles are all alike. */
    private static final class Buffer {
        int room = 1;
        int delay;
        final int[] came = new int[MAX_ROOM];
        int first;
        int count;

        boolean hasRoom() {
            return count < room;
        }

        void add(int instant) {
            came[(first + count) % MAX_ROOM] = instant;
            count++;
        }

        /**
         * The instant from which on its first bottle may be taken, or the last one when
         * it has none. Even without a delay a bottle must have come at an earlier instant.
         */
        int readyAt() {
            return count > 0 ? came[first] + Math.max(1, delay) : LAST_INSTANT;
        }

        boolean isReady(int instant) {
            return count > 0 && instant >= readyAt();
        }

        void removeFirst() {
            first = (first + 1) % MAX_ROOM;
            count--;
        }
    }

    private static final class Fault {
        final long above;
        final long below;
        final int tenths;
        Fault next;

        Fault(long above, long below, int tenths) {
            this.above = above;
            this.below = below;
            this.tenths = tenths;
        }
    }

    private static final class Row {
        final int machine;
        final int from;
        final int to;
        final int cause;
        /** The row that was told before this one, or null. */
        final Row earlier;

        Row(int machine, int from, int to, int cause, Row earlier) {
            this.machine = machine;
            this.from = from;
            this.to = to;
            this.cause = cause;
            this.earlier = earlier;
        }

        boolean holds(int number, int instant) {
            return (machine == ALL || machine == number) && instant >= from && instant < to;
        }

        /** The next instant behind the given one at which the row begins or ends. */
        int turnBehind(int instant) {
            if (instant < from) {
                return from;
            }
            return instant < to ? to : LAST_INSTANT;
        }
    }
}
