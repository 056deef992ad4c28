import java.util.List;
import java.util.function.Function;
import java.util.function.Supplier;

/**
 * What a refused call leaves as it was: of two lines that are alike, one is told the call that is
 * refused, and both tell the same from then on, however they go on.
 */
public final class RefusedTest {
    private static final int NONE = LineEvents.NONE;
    private static final int LAST = 1_000_000_000;
    private static final Due due = new Due();

    /** A call, and whether its answer says that it was refused. */
    private record Call(String text, Function<LineEvents, Boolean> refused) { }

    /** Refused in every line of three machines. */
    private static final List<Call> WRONG = List.of(
        new Call("machine(0, -1)", x -> x.machine(0, -1) == NONE),
        new Call("machine(10001, 2)", x -> x.machine(10_001, 2) == NONE),
        new Call("machine(1, -2)", x -> x.machine(1, -2) == NONE),
        new Call("machine(1, 3)", x -> x.machine(1, 3) == NONE),
        new Call("machine(1, 0)", x -> x.machine(1, 0) == NONE),
        new Call("buffer(-1, 9, 9)", x -> x.buffer(-1, 9, 9) == NONE),
        new Call("buffer(3, 9, 9)", x -> x.buffer(3, 9, 9) == NONE),
        new Call("buffer(0, 0, 9)", x -> x.buffer(0, 0, 9) == NONE),
        new Call("buffer(0, 1001, 9)", x -> x.buffer(0, 1001, 9) == NONE),
        new Call("buffer(0, 9, -1)", x -> x.buffer(0, 9, -1) == NONE),
        new Call("buffer(0, 9, 10001)", x -> x.buffer(0, 9, 10_001) == NONE),
        new Call("fault(-1, 1, 1, 1)", x -> !x.fault(-1, 1, 1, 1)),
        new Call("fault(3, 1, 1, 1)", x -> !x.fault(3, 1, 1, 1)),
        new Call("fault(0, 0, 0, 1)", x -> !x.fault(0, 0, 0, 1)),
        new Call("fault(0, 1, 1000001, 1)", x -> !x.fault(0, 1, 1_000_001, 1)),
        new Call("fault(0, -1, 1, 1)", x -> !x.fault(0, -1, 1, 1)),
        new Call("fault(0, 2, 1, 1)", x -> !x.fault(0, 2, 1, 1)),
        new Call("fault(0, 1, 1, -1)", x -> !x.fault(0, 1, 1, -1)),
        new Call("fault(0, 1, 1, 100001)", x -> !x.fault(0, 1, 1, 100_001)),
        new Call("row(-1, 900, 990, 4)", x -> !x.row(-1, 900, 990, 4)),
        new Call("row(3, 900, 990, 4)", x -> !x.row(3, 900, 990, 4)),
        new Call("row(0, -1, 990, 4)", x -> !x.row(0, -1, 990, 4)),
        new Call("row(0, 900, 900, 4)", x -> !x.row(0, 900, 900, 4)),
        new Call("row(0, 900, 1000000001, 4)", x -> !x.row(0, 900, LAST + 1, 4)),
        new Call("row(0, 900, 990, 3)", x -> !x.row(0, 900, 990, 3)),
        new Call("row(0, 900, 990, 10)", x -> !x.row(0, 900, 990, 10)),
        new Call("run(-1)", x -> x.run(-1) == NONE),
        new Call("run(100001)", x -> x.run(100_001) == NONE),
        new Call("event(-1, 0)", x -> x.event(-1, 0) == NONE),
        new Call("event(1000, 0)", x -> x.event(1000, 0) == NONE),
        new Call("event(0, -1)", x -> x.event(0, -1) == NONE),
        new Call("event(0, 3)", x -> x.event(0, 3) == NONE),
        new Call("lost(0, -1)", x -> x.lost(0, -1) == NONE),
        new Call("lost(0, 12)", x -> x.lost(0, 12) == NONE),
        new Call("lost(3, 0)", x -> Due.answer(() -> x.lost(3, 0)) == Due.THROWN),
        new Call("lost(-1, 12)", x -> Due.answer(() -> x.lost(-1, 12)) == Due.THROWN),
        new Call("rejected(3)", x -> Due.answer(() -> x.rejected(3)) == Due.THROWN),
        new Call("rejected(-1)", x -> Due.answer(() -> x.rejected(-1)) == Due.THROWN),
        new Call("time(0, -1)", x -> x.time(0, -1) == NONE),
        new Call("time(0, 12)", x -> x.time(0, 12) == NONE),
        new Call("time(3, 0)", x -> Due.answer(() -> x.time(3, 0)) == Due.THROWN),
        new Call("change(-1, 5)", x -> !x.change(-1, 5)),
        new Call("change(900, 0)", x -> !x.change(900, 0)),
        new Call("change(900, 1000001)", x -> !x.change(900, 1_000_001)),
        new Call("change(999999999, 2)", x -> !x.change(LAST - 1, 2)),
        new Call("change(2147483647, 5)", x -> !x.change(Integer.MAX_VALUE, 5)),
        new Call("rest(-1, 990)", x -> !x.rest(-1, 990)),
        new Call("rest(900, 900)", x -> !x.rest(900, 900)),
        new Call("rest(900, 1000000001)", x -> !x.rest(900, LAST + 1)));

    /** Refused since a run of 700 has gone on. */
    private static final List<Call> TOO_LATE = List.of(
        new Call("machine(1, -1) behind a run", x -> x.machine(1, -1) == NONE),
        new Call("machine(1, 2) behind a run", x -> x.machine(1, 2) == NONE),
        new Call("buffer(0, 9, 9) behind a run", x -> x.buffer(0, 9, 9) == NONE),
        new Call("buffer(1, 1, 0) behind a run", x -> x.buffer(1, 1, 0) == NONE),
        new Call("fault(0, 1, 1, 0) behind a run", x -> !x.fault(0, 1, 1, 0)),
        new Call("fault(2, 1, 1, 50) behind a run", x -> !x.fault(2, 1, 1, 50)),
        new Call("row(0, 699, 990, 4) behind a run", x -> !x.row(0, 699, 990, 4)),
        new Call("change(699, 290) behind a run", x -> !x.change(699, 290)),
        new Call("rest(0, 990) behind a run", x -> !x.rest(0, 990)));

    /** Refused since there are as many as there may be. */
    private static final List<Call> TOO_MANY = List.of(
        new Call("machine(1, -1) when full", x -> x.machine(1, -1) == LineEvents.FULL),
        new Call("machine(1, 2) when full", x -> x.machine(1, 2) == LineEvents.FULL),
        new Call("fault(0, 1, 1, 0) when it has four", x -> !x.fault(0, 1, 1, 0)),
        new Call("fault(0, 1, 1, 9) when it has four", x -> !x.fault(0, 1, 1, 9)),
        new Call("row(0, 20, 990, 4) when there are 64", x -> !x.row(0, 20, 990, 4)),
        new Call("change(20, 5) when there are 64", x -> !x.change(20, 5)),
        new Call("rest(20, 990) when there are 64", x -> !x.rest(20, 990)));

    public static void main(String[] args) {
        for (Call call : WRONG) {
            leavesAll(call, Lines::busy);
            leavesAll(call, RefusedTest::busyBehindARun);
        }
        for (Call call : TOO_LATE) {
            leavesAll(call, RefusedTest::busyBehindARun);
        }
        for (Call call : TOO_MANY) {
            leavesAll(call, RefusedTest::full);
        }
        due.end();
    }

    private static void leavesAll(Call call, Supplier<LineEvents> line) {
        due.same(call.text + ", then a run", goneOn(line.get()), goneOn(told(call, line.get())));
        due.same(call.text + ", then more is told", builtOn(line.get()), builtOn(told(call, line.get())));
    }

    private static LineEvents told(Call call, LineEvents x) {
        due.yes(call.text + " is refused", call.refused.apply(x));
        return x;
    }

    private static String goneOn(LineEvents x) {
        return Look.at(x, 3) + "\n run " + x.run(450) + "\n" + Look.at(x, 3);
    }

    /** What is still taken of each kind, and what the line does then. */
    private static String builtOn(LineEvents x) {
        StringBuilder text = new StringBuilder();
        text.append("machines ").append(x.machine(3, 2)).append(x.machine(3, -1)).append(" faults ");
        for (int f = 0; f < 5; f++) {
            text.append(x.fault(0, 1, 50, 5)).append(x.fault(1, 1, 50, 0)).append(x.fault(2, 1, 50, 5));
        }
        text.append(" rows ");
        for (int i = 0; i < 22; i++) {
            text.append(x.row(i % 3, 705 + i, 720, 5)).append(x.change(740 + 2 * i, 1)).append(x.rest(800 + 2 * i, 801 + 2 * i));
        }
        text.append(" rooms ").append(x.buffer(0, 8, 2)).append(x.buffer(1, 9, 3)).append(x.buffer(2, 5, 0));
        return text.append("\n run ").append(x.run(450)).append("\n").append(Look.at(x, 3)).toString();
    }

    private static LineEvents busyBehindARun() {
        LineEvents x = Lines.busy();
        x.run(700);
        return x;
    }

    /** Twelve machines, four faults of the first, 64 rows; machine 2 has none behind it. */
    private static LineEvents full() {
        LineEvents x = new LineEvents(5);
        for (int i = 0; i < 12; i++) {
            x.machine(4 + i, i % 3 == 0 ? -1 : i - 1);
        }
        for (int f = 0; f < 4; f++) {
            x.fault(0, 1, 9, 3 * f);
        }
        for (int i = 0; i < 64; i++) {
            x.row(i % 12, 10 + 5 * i, 13 + 5 * i, 4 + i % 6);
        }
        return x;
    }
}
