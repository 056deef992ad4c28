/** Each promise of the document by hand: ordinary inputs, the edges it names, wrong inputs. */
public final class PromisesTest {
    private static final int NONE = LineEvents.NONE;
    private static final int FULL = LineEvents.FULL;
    private static final int LAST = 1_000_000_000;
    private static final Due due = new Due();

    public static void main(String[] args) {
        constants();
        newObject();
        machineNumbers();
        machineRefused();
        machineFull();
        bufferRoomAndDelay();
        bufferFirstComesFirst();
        bufferRefused();
        faultRefused();
        faultRejects();
        faultStands();
        faultOfOneTenth();
        faultGreatestTenths();
        faultDrawsInOrder();
        faultRejectionEndsDrawing();
        faultEndsDuringRow();
        rowRefused();
        rowHolds();
        rowToldFirstCounts();
        rowAfterRun();
        rowLimit();
        runRefused();
        runOfNought();
        runSplitIsTheSame();
        eventParts();
        eventFirstThousand();
        eventsStayAfterRefusedRun();
        madeAndInside();
        insideBuffers();
        lostWholeOnes();
        noSuchCause();
        noSuchMachine();
        rejectedCounts();
        changeRefused();
        changeHolds();
        restRefused();
        restHolds();
        rowsBeforeMachines();
        timeOfCauses();
        workStopsInRow();
        fallingOrder();
        keptAlways();
        due.end();
    }

    private static void constants() {
        due.is("NONE", -1, NONE);
        due.is("FULL", -2, FULL);
    }

    private static void newObject() {
        LineEvents x = new LineEvents(7);
        due.is("new: made", 0, x.made());
        due.is("new: inside", 0, x.inside());
        due.yes("new: kept", x.kept());
        due.is("new: event", NONE, x.event(0, 0));
        due.throwsIndexOutside("new: rejected(0)", () -> x.rejected(0));
        due.yes("new: instant 0 has not come", x.rest(0, 1));
        due.is("new: first machine", 0, x.machine(1, -1));
    }

    private static void machineNumbers() {
        LineEvents x = new LineEvents(0);
        due.is("machine of the least tenths", 0, x.machine(1, -1));
        due.is("machine of the most tenths", 1, x.machine(10_000, 0));
        due.is("machine behind none again", 2, x.machine(5, -1));
        due.is("machine behind an earlier one", 3, x.machine(5, 2));
        due.is("machine behind the second", 4, x.machine(5, 1));
    }

    private static void machineRefused() {
        LineEvents x = new LineEvents(0);
        due.is("machine(0)", NONE, x.machine(0, -1));
        due.is("machine(-1)", NONE, x.machine(-1, -1));
        due.is("machine(10001)", NONE, x.machine(10_001, -1));
        due.is("machine(min)", NONE, x.machine(Integer.MIN_VALUE, -1));
        due.is("machine behind itself", NONE, x.machine(1, 0));
        due.is("machine behind -2", NONE, x.machine(1, -2));
        due.is("refused ones take no number", 0, x.machine(1, -1));
        due.is("machine behind one that is none", NONE, x.machine(1, 1));
        due.is("machine behind max", NONE, x.machine(1, Integer.MAX_VALUE));
        due.is("machine behind min", NONE, x.machine(1, Integer.MIN_VALUE));
        due.is("machine of wrong tenths behind 0", NONE, x.machine(0, 0));
        due.is("a refused one stands behind none", 1, x.machine(1, 0));
        due.is("machine behind one that has one", NONE, x.machine(1, 0));
        x.run(1);
        due.is("machine after a run", NONE, x.machine(1, -1));
        due.is("machine after a run, behind 1", NONE, x.machine(1, 1));
    }

    private static void machineFull() {
        LineEvents x = new LineEvents(0);
        for (int i = 0; i < 12; i++) {
            due.is("machine " + i, i, x.machine(3, i - 1));
        }
        due.is("machine 13", FULL, x.machine(3, -1));
        due.is("machine 13 behind the last", FULL, x.machine(3, 11));
        due.is("full, but wrong tenths", NONE, x.machine(0, -1));
        due.is("full, but behind one that has one", NONE, x.machine(3, 0));
        due.is("full, but behind none such", NONE, x.machine(3, 12));
        x.run(1);
        due.is("full, but a run has gone on", NONE, x.machine(3, -1));
    }

    private static void bufferRoomAndDelay() {
        LineEvents x = new LineEvents(0);
        x.machine(1, -1);
        due.is("room at first", 1, x.buffer(0, 1000, 10_000));
        due.is("room before", 1000, x.buffer(0, 1, 0));
        due.is("room before that", 1, x.buffer(0, 3, 4));
        x.machine(1, 0);
        due.is("a room told before the machine behind stays", 3, x.buffer(0, 3, 4));
        x.run(5);
        due.is("no bottle is taken before its delay", 5, x.time(1, 10));
        due.is("the room is full", 4, x.inside());
        x.run(1);
        due.is("the delay's last instant", 5, x.event(0, 0));
        due.is("taken by", 1, x.event(0, 1));
        due.is("as", 0, x.event(0, 2));
    }

    /** Bottles come at instants 3, 6, 9, ..: each waits for its own delay. */
    private static void bufferFirstComesFirst() {
        LineEvents x = new LineEvents(0);
        x.machine(3, -1);
        x.machine(1, 0);
        x.buffer(0, 1000, 100);
        x.rest(50, 75);
        int instant = 0;
        for (int bottle = 0; bottle < 40; bottle++) {
            int came = 3 + 3 * bottle + (3 + 3 * bottle < 50 ? 0 : 25);
            x.run(came + 100 - instant);
            due.is("none is taken before its delay: " + bottle, bottle, x.time(1, 0));
            x.run(1);
            event(x, 0, came + 100, 1, 0);
            instant = came + 101;
        }
        due.yes("kept", x.kept());
    }

    private static void bufferRefused() {
        LineEvents x = new LineEvents(0);
        due.is("buffer of none", NONE, x.buffer(0, 1, 0));
        x.machine(1, -1);
        due.is("buffer(-1)", NONE, x.buffer(-1, 1, 0));
        due.is("buffer(1)", NONE, x.buffer(1, 1, 0));
        due.is("room 0", NONE, x.buffer(0, 0, 0));
        due.is("room 1001", NONE, x.buffer(0, 1001, 0));
        due.is("room min", NONE, x.buffer(0, Integer.MIN_VALUE, 0));
        due.is("delay -1", NONE, x.buffer(0, 5, -1));
        due.is("delay 10001", NONE, x.buffer(0, 5, 10_001));
        due.is("refused ones change nothing", 1, x.buffer(0, 2, 0));
        x.run(1);
        due.is("buffer after a run", NONE, x.buffer(0, 2, 0));
    }

    private static void faultRefused() {
        LineEvents x = new LineEvents(0);
        due.no("fault of none", x.fault(0, 1, 2, 3));
        x.machine(1, -1);
        due.no("fault of -1", x.fault(-1, 1, 2, 3));
        due.no("fault of 1", x.fault(1, 1, 2, 3));
        due.no("below 0", x.fault(0, 0, 0, 3));
        due.no("below -1", x.fault(0, -1, -1, 3));
        due.no("below 1000001", x.fault(0, 1, 1_000_001, 3));
        due.no("below of 2^32 + 1", x.fault(0, 1, (1L << 32) + 1, 3));
        due.no("above -1", x.fault(0, -1, 2, 3));
        due.no("above above below", x.fault(0, 3, 2, 3));
        due.no("above of 2^32", x.fault(0, 1L << 32, 2, 3));
        due.no("tenths -1", x.fault(0, 1, 2, -1));
        due.no("tenths 100001", x.fault(0, 1, 2, 100_001));
        due.yes("least numbers", x.fault(0, 0, 1, 0));
        due.yes("most numbers", x.fault(0, 0, 1_000_000, 100_000));
        due.yes("third", x.fault(0, 0, 5, 5));
        due.yes("fourth", x.fault(0, 0, 5, 5));
        due.no("fifth", x.fault(0, 0, 5, 5));
        x.machine(1, -1);
        due.yes("the limit is each machine's", x.fault(1, 1_000_000, 1_000_000, 0));
        x.run(1);
        due.no("fault after a run", x.fault(1, 0, 5, 5));
    }

    private static void faultRejects() {
        LineEvents x = new LineEvents(0);
        x.machine(2, -1);
        x.fault(0, 1, 1, 0);
        due.is("rejecting: events", 5, x.run(5));
        event(x, 0, 0, 0, 0);
        event(x, 1, 2, 0, 2);
        event(x, 2, 2, 0, 0);
        event(x, 3, 4, 0, 2);
        event(x, 4, 4, 0, 0);
        due.is("rejecting: rejected", 2, x.rejected(0));
        due.is("rejecting: made", 0, x.made());
        due.is("rejecting: work", 5, x.time(0, 0));
    }

    private static void faultStands() {
        LineEvents x = new LineEvents(0);
        x.machine(2, -1);
        x.fault(0, 1, 1, 3);
        due.is("standing: events", 7, x.run(11));
        event(x, 0, 0, 0, 0);
        event(x, 1, 2, 0, 3);
        event(x, 2, 5, 0, 1);
        event(x, 3, 5, 0, 0);
        event(x, 4, 7, 0, 3);
        event(x, 5, 10, 0, 1);
        event(x, 6, 10, 0, 0);
        due.is("standing: time of faults", 6, x.time(0, 3));
        due.is("standing: time of work", 5, x.time(0, 0));
        due.is("standing: made", 2, x.made());
    }

    private static void faultOfOneTenth() {
        LineEvents x = new LineEvents(0);
        x.machine(1, -1);
        x.fault(0, 1, 1, 1);
        due.is("one tenth: events", 4, x.run(3));
        event(x, 1, 1, 0, 3);
        event(x, 2, 2, 0, 1);
        due.is("one tenth: time", 1, x.time(0, 3));
    }

    private static void faultGreatestTenths() {
        LineEvents x = new LineEvents(0);
        x.machine(1, -1);
        x.fault(0, 1, 1, 4);
        x.fault(0, 1, 1, 9);
        x.fault(0, 1, 1, 6);
        due.is("greatest: events", 2, x.run(10));
        event(x, 1, 1, 0, 3);
        due.is("greatest: next events", 2, x.run(1));
        event(x, 0, 10, 0, 1);
        due.is("greatest: time", 9, x.time(0, 3));
    }

    /** The numbers drawn are worked out here, to see which of two faults hits for each bottle. */
    private static void faultDrawsInOrder() {
        long seed = -987654321L;
        LineEvents x = new LineEvents(seed);
        x.machine(1, -1);
        x.fault(0, 2, 5, 10);
        x.fault(0, 1, 3, 20);
        long state = seed;
        int instant = 0;
        x.run(1);
        for (int bottle = 0; bottle < 40; bottle++) {
            state = nextState(state);
            boolean first = (state >>> 33) % 5 < 2;
            state = nextState(state);
            boolean second = (state >>> 33) % 3 < 1;
            int stands = second ? 20 : first ? 10 : 0;
            x.run(1 + stands);
            instant += 1 + stands;
            due.is("bottle " + bottle + " is made", bottle + 1, x.made());
            event(x, stands > 0 ? 1 : 0, instant, 0, 1);
        }
        due.yes("drawing: kept", x.kept());
    }

    private static long nextState(long state) {
        return state * 6364136223846793005L + 1442695040888963407L;
    }

    /** A rejection by the first fault leaves the number of the second one undrawn. */
    private static void faultRejectionEndsDrawing() {
        long seed = 12345;
        LineEvents x = new LineEvents(seed);
        x.machine(1, -1);
        x.fault(0, 1, 2, 7);
        x.fault(0, 1, 2, 0);
        x.fault(0, 1, 2, 3);
        long state = seed;
        long rejected = 0;
        int instant = 0;
        x.run(1);
        for (int bottle = 0; bottle < 60; bottle++) {
            state = nextState(state);
            boolean seven = (state >>> 33) % 2 == 0;
            state = nextState(state);
            boolean gone = (state >>> 33) % 2 == 0;
            int stands = 0;
            if (gone) {
                rejected++;
            } else {
                state = nextState(state);
                boolean three = (state >>> 33) % 2 == 0;
                stands = seven ? 7 : three ? 3 : 0;
            }
            x.run(1 + stands);
            instant += 1 + stands;
            due.is("undrawn: rejected at " + instant, rejected, x.rejected(0));
            due.is("undrawn: made at " + instant, bottle + 1 - rejected, x.made());
        }
        due.yes("undrawn: some of both", rejected > 0 && x.made() > 0);
    }

    private static void faultEndsDuringRow() {
        LineEvents x = new LineEvents(0);
        x.machine(1, -1);
        x.fault(0, 1, 1, 5);
        x.row(0, 3, 8, 6);
        x.run(9);
        due.is("the fault's time before the row", 2, x.time(0, 3));
        due.is("the row's time", 5, x.time(0, 6));
        due.is("it goes on behind the row", 1, x.made());
        event(x, 2, 8, 0, 1);

        LineEvents y = new LineEvents(0);
        y.machine(1, -1);
        y.fault(0, 1, 1, 9);
        y.row(0, 3, 8, 6);
        y.run(11);
        due.is("the fault goes on behind the row", 4, y.time(0, 3));
        due.is("it ends by the clock", 1, y.made());
        event(y, 2, 10, 0, 1);
    }

    private static void rowRefused() {
        LineEvents x = new LineEvents(0);
        due.no("row of none", x.row(0, 1, 2, 4));
        due.no("row of all by its number", x.row(-1, 1, 2, 4));
        x.machine(1, -1);
        due.no("row of -1", x.row(-1, 1, 2, 4));
        due.no("row of 1", x.row(1, 1, 2, 4));
        due.no("row of 12", x.row(12, 1, 2, 4));
        due.no("from below 0", x.row(0, -1, 2, 4));
        due.no("from min", x.row(0, Integer.MIN_VALUE, 2, 4));
        due.no("to is from", x.row(0, 5, 5, 4));
        due.no("to below from", x.row(0, 5, 4, 4));
        due.no("to above the last", x.row(0, 5, LAST + 1, 4));
        due.no("from at the last", x.row(0, LAST, LAST, 4));
        for (int cause : new int[] {-1, 0, 1, 2, 3, 10, 11, Integer.MAX_VALUE}) {
            due.no("row by cause " + cause, x.row(0, 5, 6, cause));
        }
        x.run(10);
        for (int cause = 0; cause < 12; cause++) {
            due.is("refused rows never hold: " + cause, cause == 0 ? 10 : 0, x.time(0, cause));
        }
        due.no("from has come", x.row(0, 9, 20, 4));
        due.no("from is long gone", x.row(0, 0, 20, 4));
        due.yes("from comes next", x.row(0, 10, LAST, 4));
        due.yes("the last instants", x.row(0, LAST - 1, LAST, 9));
    }

    private static void rowHolds() {
        LineEvents x = new LineEvents(0);
        x.machine(3, -1);
        x.machine(3, -1);
        due.yes("row", x.row(0, 4, 6, 7));
        x.run(10);
        due.is("the row's tenths", 2, x.time(0, 7));
        due.is("the others are work", 8, x.time(0, 0));
        due.is("another machine goes on", 10, x.time(1, 0));
        due.is("another machine's row time", 0, x.time(1, 7));
    }

    private static void rowToldFirstCounts() {
        LineEvents x = new LineEvents(0);
        x.machine(1, -1);
        x.row(0, 5, 15, 9);
        x.row(0, 0, 10, 4);
        x.rest(8, 20);
        x.change(0, 30);
        x.run(30);
        due.is("told first", 10, x.time(0, 9));
        due.is("told second", 5, x.time(0, 4));
        due.is("told third", 5, x.time(0, 2));
        due.is("told last", 10, x.time(0, 1));
        due.is("nothing is begun", 0, x.inside());
    }

    private static void rowAfterRun() {
        LineEvents x = new LineEvents(0);
        x.machine(1, -1);
        x.run(5);
        due.yes("a row from the next instant on", x.row(0, 5, 7, 5));
        due.is("no events in the row", 0, x.run(2));
        due.is("its time", 2, x.time(0, 5));
        due.yes("one more", x.row(0, 8, 9, 5));
        due.is("events before it", 2, x.run(1));
        due.is("none in it", 0, x.run(1));
        due.is("events behind it", 2, x.run(1));
        due.is("both times", 3, x.time(0, 5));
    }

    private static void rowLimit() {
        LineEvents x = new LineEvents(0);
        x.machine(1, -1);
        for (int i = 0; i < 62; i++) {
            due.yes("row " + i, x.row(0, i, i + 1, 4 + i % 6));
        }
        due.no("a refused row does not count", x.row(0, 5, 5, 4));
        due.yes("row 63", x.change(62, 1));
        due.yes("row 64", x.rest(63, 64));
        due.no("row 65", x.row(0, 64, 65, 4));
        due.no("change 65", x.change(64, 1));
        due.no("rest 65", x.rest(64, 65));
        due.is("nothing works in 64 rows", 0, x.run(64));
        due.no("rows that are over still count", x.rest(64, 65));
        due.is("it works behind them", 1, x.run(1));
    }

    private static void runRefused() {
        LineEvents x = new LineEvents(0);
        x.machine(1, -1);
        due.is("run(-1)", NONE, x.run(-1));
        due.is("run(min)", NONE, x.run(Integer.MIN_VALUE));
        due.is("run(100001)", NONE, x.run(100_001));
        due.is("run(max)", NONE, x.run(Integer.MAX_VALUE));
        due.is("a refused run has not gone on", 1, x.machine(1, 0));
        due.is("the longest run", 399_994, x.run(100_000));
        due.is("its instants came", 100_000, x.time(0, 0));
        due.is("made in it", 99_997, x.made());
    }

    private static void runOfNought() {
        LineEvents x = new LineEvents(0);
        x.machine(1, -1);
        due.is("run(0)", 0, x.run(0));
        due.is("nothing has gone on", 1, x.machine(1, 0));
        due.is("run(1)", 1, x.run(1));
        due.is("its event", 0, x.event(0, 0));
        due.is("run(0) again", 0, x.run(0));
        due.is("the last run had no events", NONE, x.event(0, 0));
        due.is("no time went by", 1, x.time(0, 0));
        due.yes("kept", x.kept());
    }

    private static void runSplitIsTheSame() {
        LineEvents whole = busyLine();
        LineEvents parts = busyLine();
        int events = whole.run(5000);
        int sum = 0;
        for (int i = 0; i < 100; i++) {
            sum += parts.run(i % 2 == 0 ? 1 : 99);
        }
        due.is("events of the parts", events, sum);
        due.is("made in parts", whole.made(), parts.made());
        due.is("inside in parts", whole.inside(), parts.inside());
        for (int m = 0; m < 3; m++) {
            for (int cause = 0; cause < 12; cause++) {
                due.is("time(" + m + ", " + cause + ")", whole.time(m, cause), parts.time(m, cause));
            }
        }
    }

    private static LineEvents busyLine() {
        LineEvents x = new LineEvents(99);
        x.machine(7, -1);
        x.machine(5, 0);
        x.machine(6, 1);
        x.buffer(0, 3, 11);
        x.buffer(1, 2, 0);
        x.fault(0, 1, 10, 0);
        x.fault(1, 1, 20, 80);
        x.fault(2, 1, 30, 40);
        x.row(1, 300, 420, 8);
        x.rest(1000, 1500);
        x.change(1400, 300);
        return x;
    }

    private static void eventParts() {
        LineEvents x = new LineEvents(0);
        x.machine(2, -1);
        x.machine(1, 0);
        due.is("events", 4, x.run(4));
        event(x, 0, 0, 0, 0);
        event(x, 1, 2, 0, 1);
        event(x, 2, 2, 0, 0);
        event(x, 3, 3, 1, 0);
        due.is("events of the next instant", 3, x.run(1));
        event(x, 0, 4, 1, 1);
        event(x, 1, 4, 0, 1);
        event(x, 2, 4, 0, 0);
        due.is("event(3)", NONE, x.event(3, 0));
        due.is("event(-1)", NONE, x.event(-1, 0));
        due.is("event(min)", NONE, x.event(Integer.MIN_VALUE, 0));
        due.is("event(max)", NONE, x.event(Integer.MAX_VALUE, 0));
        due.is("what -1", NONE, x.event(0, -1));
        due.is("what 3", NONE, x.event(0, 3));
        due.is("what max", NONE, x.event(0, Integer.MAX_VALUE));
    }

    private static void eventFirstThousand() {
        LineEvents x = new LineEvents(0);
        x.machine(1, -1);
        due.is("1999 events", 1999, x.run(1000));
        event(x, 999, 500, 0, 1);
        due.is("event 1000", NONE, x.event(1000, 0));
        due.is("event 1998", NONE, x.event(1998, 2));
        due.is("the next run's events", 2, x.run(1));
        event(x, 1, 1000, 0, 0);
        due.is("of the last run alone", NONE, x.event(2, 0));
    }

    private static void eventsStayAfterRefusedRun() {
        LineEvents x = new LineEvents(0);
        x.machine(1, -1);
        x.run(3);
        x.run(100_001);
        event(x, 2, 1, 0, 0);
        x.run(-1);
        event(x, 4, 2, 0, 0);
    }

    private static void madeAndInside() {
        LineEvents x = new LineEvents(0);
        x.machine(10, -1);
        x.run(10);
        due.is("made before it has left", 0, x.made());
        due.is("inside the machine", 1, x.inside());
        x.run(1);
        due.is("made when it left", 1, x.made());
        due.is("the next one is inside", 1, x.inside());
        x.run(100);
        due.is("made in all", 11, x.made());
    }

    private static void insideBuffers() {
        LineEvents x = new LineEvents(0);
        x.machine(1, -1);
        x.machine(10_000, 0);
        x.buffer(0, 1000, 0);
        x.run(500);
        due.is("inside a filling buffer", 500, x.inside());
        x.run(1500);
        due.is("inside a full buffer and both machines", 1002, x.inside());
        due.is("waiting with one that could not leave", 998, x.time(0, 11));
        due.is("none is made", 0, x.made());
        due.yes("kept", x.kept());
        x.run(8002);
        due.is("worked on, but not left", 0, x.made());
        x.run(1);
        due.is("one is made", 1, x.made());
        due.is("one more came", 1002, x.inside());
        due.is("one leaves, and all go up", 4, x.run(10_000));
        event(x, 0, 20_002, 1, 1);
        event(x, 1, 20_002, 1, 0);
        event(x, 2, 20_002, 0, 1);
        event(x, 3, 20_002, 0, 0);
    }

    private static void lostWholeOnes() {
        LineEvents x = new LineEvents(0);
        x.machine(7, -1);
        x.rest(0, 20);
        x.run(20);
        due.is("20 tenths by 7", 2, x.lost(0, 2));
        due.is("none by another cause", 0, x.lost(0, 0));
        x.rest(20, 21);
        x.run(15);
        due.is("21 tenths by 7", 3, x.lost(0, 2));
        due.is("14 tenths of work by 7", 2, x.lost(0, 0));
        due.is("of cause 11", 0, x.lost(0, 11));
    }

    private static void noSuchCause() {
        LineEvents x = new LineEvents(0);
        x.machine(1, -1);
        x.run(3);
        for (int cause : new int[] {-1, 12, Integer.MIN_VALUE, Integer.MAX_VALUE}) {
            due.is("lost by " + cause, NONE, x.lost(0, cause));
            due.is("time of " + cause, NONE, x.time(0, cause));
        }
    }

    private static void noSuchMachine() {
        LineEvents x = new LineEvents(0);
        x.machine(1, -1);
        x.machine(1, 0);
        x.run(9);
        for (int m : new int[] {-1, 2, 11, 12, Integer.MIN_VALUE, Integer.MAX_VALUE}) {
            due.throwsIndexOutside("lost of " + m, () -> x.lost(m, 0));
            due.throwsIndexOutside("rejected of " + m, () -> x.rejected(m));
            due.throwsIndexOutside("time of " + m, () -> x.time(m, 0));
            due.throwsIndexOutside("lost of none by none", () -> x.lost(m, 12));
            due.throwsIndexOutside("time of none by none", () -> x.time(m, -1));
        }
        due.is("nothing changes: made", 6, x.made());
        due.yes("nothing changes: kept", x.kept());
        event(x, 0, 0, 0, 0);
    }

    private static void rejectedCounts() {
        LineEvents x = new LineEvents(0);
        x.machine(1, -1);
        x.machine(1, 0);
        x.fault(1, 1, 1, 0);
        due.is("none yet", 0, x.rejected(1));
        x.run(12);
        due.is("by the second one", 9, x.rejected(1));
        due.is("none by the first one", 0, x.rejected(0));
        due.is("none is made", 0, x.made());
        due.is("they are no more inside", 3, x.inside());
        due.yes("kept", x.kept());
    }

    private static void changeRefused() {
        LineEvents x = new LineEvents(0);
        due.no("tenths 0", x.change(0, 0));
        due.no("tenths -1", x.change(0, -1));
        due.no("tenths min", x.change(0, Integer.MIN_VALUE));
        due.no("tenths 1000001", x.change(0, 1_000_001));
        due.no("from -1", x.change(-1, 5));
        due.no("from min", x.change(Integer.MIN_VALUE, 5));
        due.no("from max", x.change(Integer.MAX_VALUE, 1_000_000));
        due.no("it would end above the last", x.change(LAST - 4, 5));
        due.yes("it ends at the last", x.change(LAST - 5, 5));
        due.yes("the longest", x.change(1000, 1_000_000));
        x.run(10);
        due.no("from has come", x.change(9, 5));
        due.yes("from comes next", x.change(10, 5));
    }

    private static void changeHolds() {
        LineEvents x = new LineEvents(0);
        x.machine(1, -1);
        x.machine(1, -1);
        due.yes("change", x.change(3, 4));
        x.run(20);
        due.is("of the first", 4, x.time(0, 1));
        due.is("of the second", 4, x.time(1, 1));
        due.is("the others are work", 16, x.time(1, 0));
    }

    private static void restRefused() {
        LineEvents x = new LineEvents(0);
        due.no("to is from", x.rest(5, 5));
        due.no("to below from", x.rest(5, 4));
        due.no("from -1", x.rest(-1, 5));
        due.no("to above the last", x.rest(0, LAST + 1));
        due.no("to max", x.rest(0, Integer.MAX_VALUE));
        due.yes("to the last", x.rest(LAST - 1, LAST));
        x.run(10);
        due.no("from has come", x.rest(9, 20));
        due.yes("from comes next", x.rest(10, 20));
    }

    private static void restHolds() {
        LineEvents x = new LineEvents(0);
        x.machine(1, -1);
        x.machine(1, 0);
        due.yes("rest", x.rest(5, 9));
        x.run(20);
        due.is("of the first", 4, x.time(0, 2));
        due.is("of the second", 4, x.time(1, 2));
    }

    private static void rowsBeforeMachines() {
        LineEvents x = new LineEvents(0);
        due.yes("rest before any machine", x.rest(1, 3));
        due.yes("change before any machine", x.change(3, 2));
        x.machine(1, -1);
        x.run(6);
        due.is("its rest", 2, x.time(0, 2));
        due.is("its change", 2, x.time(0, 1));
    }

    private static void timeOfCauses() {
        LineEvents x = new LineEvents(0);
        x.machine(2, -1);
        x.machine(5, 0);
        x.run(40);
        due.is("first: work", 20, x.time(0, 0));
        due.is("first: could not leave", 20, x.time(0, 11));
        due.is("first: none", 0, x.time(0, 10));
        due.is("second: work", 37, x.time(1, 0));
        due.is("second: none", 3, x.time(1, 10));
        due.is("second: could not leave", 0, x.time(1, 11));
    }

    private static void workStopsInRow() {
        LineEvents x = new LineEvents(0);
        x.machine(10, -1);
        x.row(0, 4, 104, 5);
        x.run(110);
        due.is("ten tenths of work are not done", 0, x.made());
        x.run(1);
        due.is("now they are", 1, x.made());
        event(x, 0, 110, 0, 1);
    }

    /** The one behind acts first: its place in the buffer is free at the same instant. */
    private static void fallingOrder() {
        LineEvents x = new LineEvents(0);
        x.machine(1, -1);
        x.machine(3, 0);
        due.is("events", 10, x.run(6));
        event(x, 0, 0, 0, 0);
        event(x, 1, 1, 0, 1);
        event(x, 2, 1, 0, 0);
        event(x, 3, 2, 1, 0);
        event(x, 4, 2, 0, 1);
        event(x, 5, 2, 0, 0);
        event(x, 6, 5, 1, 1);
        event(x, 7, 5, 1, 0);
        event(x, 8, 5, 0, 1);
        event(x, 9, 5, 0, 0);
    }

    private static void keptAlways() {
        LineEvents x = busyLine();
        for (int i = 0; i < 200; i++) {
            x.run(37);
            due.yes("kept at " + 37 * (i + 1), x.kept());
        }
    }

    private static void event(LineEvents x, int k, int instant, int machine, int kind) {
        due.is("event(" + k + ", 0)", instant, x.event(k, 0));
        due.is("event(" + k + ", 1)", machine, x.event(k, 1));
        due.is("event(" + k + ", 2)", kind, x.event(k, 2));
    }
}
