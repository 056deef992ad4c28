import java.util.ArrayDeque;
import java.util.ArrayList;
import java.util.Deque;
import java.util.List;

/**
 * The document word for word, instant by instant, without regard to speed:
 * what LineEvents answers is compared with this.
 */
final class PlainLine {
    private static final int LAST = 1_000_000_000;

    private record Fault(long above, long below, int tenths) { }

    private record Row(int machine, int from, int to, int cause) {
        boolean holds(int number, int instant) {
            return (machine < 0 || machine == number) && from <= instant && instant < to;
        }
    }

    private record Event(int instant, int machine, int kind) { }

    private static final class Bottle {
        int worked;
        boolean judged;
        int came;
    }

    private static final class Machine {
        final int takes;
        final int before;
        int behind = -1;
        int room = 1;
        int delay;
        final Deque<Bottle> buffer = new ArrayDeque<>();
        final List<Fault> faults = new ArrayList<>();
        final long[] times = new long[12];
        Bottle bottle;
        long standsTo;
        long rejected;

        Machine(int takes, int before) {
            this.takes = takes;
            this.before = before;
        }
    }

    private final List<Machine> machines = new ArrayList<>();
    private final List<Row> rows = new ArrayList<>();
    private List<Event> events = new ArrayList<>();
    private long x;
    private int now;
    private long made;
    private long begun;

    PlainLine(long seed) {
        x = seed;
    }

    private boolean isMachine(int number) {
        return number >= 0 && number < machines.size();
    }

    int machine(int tenths, int after) {
        if (now > 0 || tenths < 1 || tenths > 10_000) {
            return -1;
        }
        if (after != -1 && (!isMachine(after) || machines.get(after).behind >= 0)) {
            return -1;
        }
        if (machines.size() == 12) {
            return -2;
        }
        if (after != -1) {
            machines.get(after).behind = machines.size();
        }
        machines.add(new Machine(tenths, after));
        return machines.size() - 1;
    }

    int buffer(int machine, int room, int delay) {
        if (now > 0 || !isMachine(machine) || room < 1 || room > 1000 || delay < 0 || delay > 10_000) {
            return -1;
        }
        Machine m = machines.get(machine);
        int before = m.room;
        m.room = room;
        m.delay = delay;
        return before;
    }

    boolean fault(int machine, long above, long below, int tenths) {
        if (now > 0 || !isMachine(machine) || machines.get(machine).faults.size() == 4) {
            return false;
        }
        if (below < 1 || below > 1_000_000 || above < 0 || above > below || tenths < 0 || tenths > 100_000) {
            return false;
        }
        return machines.get(machine).faults.add(new Fault(above, below, tenths));
    }

    boolean row(int machine, int from, int to, int cause) {
        return isMachine(machine) && cause >= 4 && cause <= 9 && told(machine, from, to, cause);
    }

    boolean change(int from, int tenths) {
        return tenths >= 1 && tenths <= 1_000_000 && told(-1, from, (long) from + tenths, 1);
    }

    boolean rest(int from, int to) {
        return told(-1, from, to, 2);
    }

    private boolean told(int machine, int from, long to, int cause) {
        if (from < now || to <= from || to > LAST || rows.size() == 64) {
            return false;
        }
        return rows.add(new Row(machine, from, (int) to, cause));
    }

    int run(int tenths) {
        if (tenths < 0 || tenths > 100_000 || (long) now + tenths > LAST) {
            return -1;
        }
        events = new ArrayList<>();
        for (int i = 0; i < tenths; i++) {
            for (int number = machines.size() - 1; number >= 0; number--) {
                act(number);
            }
            for (int number = 0; number < machines.size(); number++) {
                tenth(number);
            }
            now++;
        }
        return events.size();
    }

    private Row rowOf(int number) {
        for (Row row : rows) {
            if (row.holds(number, now)) {
                return row;
            }
        }
        return null;
    }

    private void act(int number) {
        Machine m = machines.get(number);
        if (rowOf(number) != null || now < m.standsTo) {
            return;
        }
        if (m.bottle != null && m.bottle.worked == m.takes && !m.bottle.judged) {
            if (stopsAtJudging(number, m)) {
                return;
            }
        }
        if (m.bottle != null && m.bottle.judged) {
            if (m.behind < 0) {
                made++;
                m.bottle = null;
                events.add(new Event(now, number, 1));
            } else if (m.buffer.size() < m.room) {
                m.bottle.came = now;
                m.buffer.addLast(m.bottle);
                m.bottle = null;
                events.add(new Event(now, number, 1));
            }
        }
        if (m.bottle == null) {
            begin(number, m);
        }
    }

    private boolean stopsAtJudging(int number, Machine m) {
        List<Integer> hits = new ArrayList<>();
        for (Fault fault : m.faults) {
            x = x * 6364136223846793005L + 1442695040888963407L;
            if ((x >>> 33) % fault.below() < fault.above()) {
                if (fault.tenths() == 0) {
                    m.bottle = null;
                    m.rejected++;
                    events.add(new Event(now, number, 2));
                    return false;
                }
                hits.add(fault.tenths());
            }
        }
        m.bottle.judged = true;
        if (hits.isEmpty()) {
            return false;
        }
        m.standsTo = now + (long) hits.stream().mapToInt(Integer::intValue).max().getAsInt();
        events.add(new Event(now, number, 3));
        return true;
    }

    private void begin(int number, Machine m) {
        if (m.before < 0) {
            m.bottle = new Bottle();
            begun++;
            events.add(new Event(now, number, 0));
            return;
        }
        Machine ahead = machines.get(m.before);
        Bottle first = ahead.buffer.peekFirst();
        if (first != null && first.came < now && now - first.came >= ahead.delay) {
            m.bottle = ahead.buffer.removeFirst();
            m.bottle.worked = 0;
            m.bottle.judged = false;
            events.add(new Event(now, number, 0));
        }
    }

    private void tenth(int number) {
        Machine m = machines.get(number);
        Row row = rowOf(number);
        if (row != null) {
            m.times[row.cause()]++;
        } else if (now < m.standsTo) {
            m.times[3]++;
        } else if (m.bottle == null) {
            m.times[10]++;
        } else if (m.bottle.judged) {
            m.times[11]++;
        } else {
            m.times[0]++;
            m.bottle.worked++;
        }
    }

    int event(int k, int what) {
        if (k < 0 || k >= events.size() || k >= 1000) {
            return -1;
        }
        Event e = events.get(k);
        return what == 0 ? e.instant() : what == 1 ? e.machine() : what == 2 ? e.kind() : -1;
    }

    long made() {
        return made;
    }

    long inside() {
        long sum = 0;
        for (Machine m : machines) {
            sum += m.buffer.size() + (m.bottle == null ? 0 : 1);
        }
        return sum;
    }

    long lost(int machine, int cause) {
        long tenths = time(machine, cause);
        return tenths < 0 ? tenths : tenths / machines.get(machine).takes;
    }

    long rejected(int machine) {
        return isMachine(machine) ? machines.get(machine).rejected : Due.THROWN;
    }

    long time(int machine, int cause) {
        if (!isMachine(machine)) {
            return Due.THROWN;
        }
        return cause < 0 || cause > 11 ? -1 : machines.get(machine).times[cause];
    }

    boolean kept() {
        long sum = made + inside();
        for (Machine m : machines) {
            sum += m.rejected;
            long tenths = 0;
            for (long t : m.times) {
                tenths += t;
            }
            if (tenths != now) {
                return false;
            }
        }
        return sum == begun;
    }

    int instant() {
        return now;
    }
}
