/** Each promise of the document by hand, in its ordinary use; the edges are in the tests named for them. */
public final class PromisesTest {
    private static final int NONE = LineEvents.NONE;
    private static final int FULL = LineEvents.FULL;
    private static final Due due = new Due();

    public static void main(String[] args) {
        constants();
        machineNumbers();
        bufferRoomAndDelay();
        bufferFirstComesFirst();
        faultRejects();
        faultStands();
        faultDrawsInOrder();
        faultRejectionEndsDrawing();
        faultEndsDuringRow();
        rowHolds();
        rowToldFirstCounts();
        rowAfterRun();
        runSplitIsTheSame();
        eventParts();
        madeAndInside();
        insideBuffers();
        lostWholeOnes();
        rejectedCounts();
        changeHolds();
        restHolds();
        timeOfCauses();
        workStopsInRow();
        fallingOrder();
        keptAlways();
        due.end();
    }

    private static void constants() {
        due.is("NONE", -1, NONE);
        due.is("FULL", -2, FULL);
    }

    private static void machineNumbers() {
        LineEvents x = new LineEvents(0);
        due.is("machine of the least tenths", 0, x.machine(1, -1));
        due.is("machine of the most tenths", 1, x.machine(10_000, 0));
        due.is("machine behind none again", 2, x.machine(5, -1));
        due.is("machine behind an earlier one", 3, x.machine(5, 2));
        due.is("machine behind the second", 4, x.machine(5, 1));
    }

    private static void bufferRoomAndDelay() {
        LineEvents x = new LineEvents(0);
        x.machine(1, -1);
        due.is("room at first", 1, x.buffer(0, 1000, 10_000));
        due.is("room before", 1000, x.buffer(0, 1, 0));
        due.is("room before that", 1, x.buffer(0, 3, 4));
        x.machine(1, 0);
        due.is("a room told before the machine behind stays", 3, x.buffer(0, 3, 4));
        x.run(5);
        due.is("no bottle is taken before its delay", 5, x.time(1, 10));
        due.is("the room is full", 4, x.inside());
        x.run(1);
        due.is("the delay's last instant", 5, x.event(0, 0));
        due.is("taken by", 1, x.event(0, 1));
        due.is("as", 0, x.event(0, 2));
    }

    /** Bottles come at instants 3, 6, 9, ..: each waits for its own delay. */
    private static void bufferFirstComesFirst() {
        LineEvents x = new LineEvents(0);
        x.machine(3, -1);
        x.machine(1, 0);
        x.buffer(0, 1000, 100);
        x.rest(50, 75);
        int instant = 0;
        for (int bottle = 0; bottle < 40; bottle++) {
            int came = 3 + 3 * bottle + (3 + 3 * bottle < 50 ? 0 : 25);
            x.run(came + 100 - instant);
            due.is("none is taken before its delay: " + bottle, bottle, x.time(1, 0));
            x.run(1);
            due.event(x, 0, came + 100, 1, 0);
            instant = came + 101;
        }
        due.yes("kept", x.kept());
    }

    private static void faultRejects() {
        LineEvents x = new LineEvents(0);
        x.machine(2, -1);
        x.fault(0, 1, 1, 0);
        due.is("rejecting: events", 5, x.run(5));
        due.event(x, 0, 0, 0, 0);
        due.event(x, 1, 2, 0, 2);
        due.event(x, 2, 2, 0, 0);
        due.event(x, 3, 4, 0, 2);
        due.event(x, 4, 4, 0, 0);
        due.is("rejecting: rejected", 2, x.rejected(0));
        due.is("rejecting: made", 0, x.made());
        due.is("rejecting: work", 5, x.time(0, 0));
    }

    private static void faultStands() {
        LineEvents x = new LineEvents(0);
        x.machine(2, -1);
        x.fault(0, 1, 1, 3);
        due.is("standing: events", 7, x.run(11));
        due.event(x, 0, 0, 0, 0);
        due.event(x, 1, 2, 0, 3);
        due.event(x, 2, 5, 0, 1);
        due.event(x, 3, 5, 0, 0);
        due.event(x, 4, 7, 0, 3);
        due.event(x, 5, 10, 0, 1);
        due.event(x, 6, 10, 0, 0);
        due.is("standing: time of faults", 6, x.time(0, 3));
        due.is("standing: time of work", 5, x.time(0, 0));
        due.is("standing: made", 2, x.made());
    }

    /** The numbers drawn are worked out here, to see which of two faults hits for each bottle. */
    private static void faultDrawsInOrder() {
        long seed = -987654321L;
        LineEvents x = new LineEvents(seed);
        x.machine(1, -1);
        x.fault(0, 2, 5, 10);
        x.fault(0, 1, 3, 20);
        long state = seed;
        int instant = 0;
        x.run(1);
        for (int bottle = 0; bottle < 40; bottle++) {
            state = nextState(state);
            boolean first = (state >>> 33) % 5 < 2;
            state = nextState(state);
            boolean second = (state >>> 33) % 3 < 1;
            int stands = second ? 20 : first ? 10 : 0;
            x.run(1 + stands);
            instant += 1 + stands;
            due.is("bottle " + bottle + " is made", bottle + 1, x.made());
            due.event(x, stands > 0 ? 1 : 0, instant, 0, 1);
        }
        due.yes("drawing: kept", x.kept());
    }

    private static long nextState(long state) {
        return state * 6364136223846793005L + 1442695040888963407L;
    }

    /** A rejection by the first fault leaves the number of the second one undrawn. */
    private static void faultRejectionEndsDrawing() {
        long seed = 12345;
        LineEvents x = new LineEvents(seed);
        x.machine(1, -1);
        x.fault(0, 1, 2, 7);
        x.fault(0, 1, 2, 0);
        x.fault(0, 1, 2, 3);
        long state = seed;
        long rejected = 0;
        int instant = 0;
        x.run(1);
        for (int bottle = 0; bottle < 60; bottle++) {
            state = nextState(state);
            boolean seven = (state >>> 33) % 2 == 0;
            state = nextState(state);
            boolean gone = (state >>> 33) % 2 == 0;
            int stands = 0;
            if (gone) {
                rejected++;
            } else {
                state = nextState(state);
                boolean three = (state >>> 33) % 2 == 0;
                stands = seven ? 7 : three ? 3 : 0;
            }
            x.run(1 + stands);
            instant += 1 + stands;
            due.is("undrawn: rejected at " + instant, rejected, x.rejected(0));
            due.is("undrawn: made at " + instant, bottle + 1 - rejected, x.made());
        }
        due.yes("undrawn: some of both", rejected > 0 && x.made() > 0);
    }

    private static void faultEndsDuringRow() {
        LineEvents x = new LineEvents(0);
        x.machine(1, -1);
        x.fault(0, 1, 1, 5);
        x.row(0, 3, 8, 6);
        x.run(9);
        due.is("the fault's time before the row", 2, x.time(0, 3));
        due.is("the row's time", 5, x.time(0, 6));
        due.is("it goes on behind the row", 1, x.made());
        due.event(x, 2, 8, 0, 1);

        LineEvents y = new LineEvents(0);
        y.machine(1, -1);
        y.fault(0, 1, 1, 9);
        y.row(0, 3, 8, 6);
        y.run(11);
        due.is("the fault goes on behind the row", 4, y.time(0, 3));
        due.is("it ends by the clock", 1, y.made());
        due.event(y, 2, 10, 0, 1);
    }

    private static void rowHolds() {
        LineEvents x = new LineEvents(0);
        x.machine(3, -1);
        x.machine(3, -1);
        due.yes("row", x.row(0, 4, 6, 7));
        x.run(10);
        due.is("the row's tenths", 2, x.time(0, 7));
        due.is("the others are work", 8, x.time(0, 0));
        due.is("another machine goes on", 10, x.time(1, 0));
        due.is("another machine's row time", 0, x.time(1, 7));
    }

    private static void rowToldFirstCounts() {
        LineEvents x = new LineEvents(0);
        x.machine(1, -1);
        x.row(0, 5, 15, 9);
        x.row(0, 0, 10, 4);
        x.rest(8, 20);
        x.change(0, 30);
        x.run(30);
        due.is("told first", 10, x.time(0, 9));
        due.is("told second", 5, x.time(0, 4));
        due.is("told third", 5, x.time(0, 2));
        due.is("told last", 10, x.time(0, 1));
        due.is("nothing is begun", 0, x.inside());
    }

    private static void rowAfterRun() {
        LineEvents x = new LineEvents(0);
        x.machine(1, -1);
        x.run(5);
        due.yes("a row from the next instant on", x.row(0, 5, 7, 5));
        due.is("no events in the row", 0, x.run(2));
        due.is("its time", 2, x.time(0, 5));
        due.yes("one more", x.row(0, 8, 9, 5));
        due.is("events before it", 2, x.run(1));
        due.is("none in it", 0, x.run(1));
        due.is("events behind it", 2, x.run(1));
        due.is("both times", 3, x.time(0, 5));
    }

    private static void runSplitIsTheSame() {
        LineEvents whole = Lines.busy();
        LineEvents parts = Lines.busy();
        int events = whole.run(5000);
        int sum = 0;
        for (int i = 0; i < 100; i++) {
            sum += parts.run(i % 2 == 0 ? 1 : 99);
        }
        due.is("events of the parts", events, sum);
        due.is("made in parts", whole.made(), parts.made());
        due.is("inside in parts", whole.inside(), parts.inside());
        for (int m = 0; m < 3; m++) {
            for (int cause = 0; cause < 12; cause++) {
                due.is("time(" + m + ", " + cause + ")", whole.time(m, cause), parts.time(m, cause));
            }
        }
    }

    private static void eventParts() {
        LineEvents x = new LineEvents(0);
        x.machine(2, -1);
        x.machine(1, 0);
        due.is("events", 4, x.run(4));
        due.event(x, 0, 0, 0, 0);
        due.event(x, 1, 2, 0, 1);
        due.event(x, 2, 2, 0, 0);
        due.event(x, 3, 3, 1, 0);
        due.is("events of the next instant", 3, x.run(1));
        due.event(x, 0, 4, 1, 1);
        due.event(x, 1, 4, 0, 1);
        due.event(x, 2, 4, 0, 0);
        due.is("event(3)", NONE, x.event(3, 0));
    }

    private static void madeAndInside() {
        LineEvents x = new LineEvents(0);
        x.machine(10, -1);
        x.run(10);
        due.is("made before it has left", 0, x.made());
        due.is("inside the machine", 1, x.inside());
        x.run(1);
        due.is("made when it left", 1, x.made());
        due.is("the next one is inside", 1, x.inside());
        x.run(100);
        due.is("made in all", 11, x.made());
    }

    private static void insideBuffers() {
        LineEvents x = new LineEvents(0);
        x.machine(1, -1);
        x.machine(10_000, 0);
        x.buffer(0, 1000, 0);
        x.run(500);
        due.is("inside a filling buffer", 500, x.inside());
        x.run(1500);
        due.is("inside a full buffer and both machines", 1002, x.inside());
        due.is("waiting with one that could not leave", 998, x.time(0, 11));
        due.is("none is made", 0, x.made());
        due.yes("kept", x.kept());
        x.run(8002);
        due.is("worked on, but not left", 0, x.made());
        x.run(1);
        due.is("one is made", 1, x.made());
        due.is("one more came", 1002, x.inside());
        due.is("one leaves, and all go up", 4, x.run(10_000));
        due.event(x, 0, 20_002, 1, 1);
        due.event(x, 1, 20_002, 1, 0);
        due.event(x, 2, 20_002, 0, 1);
        due.event(x, 3, 20_002, 0, 0);
    }

    private static void lostWholeOnes() {
        LineEvents x = new LineEvents(0);
        x.machine(7, -1);
        x.rest(0, 20);
        x.run(20);
        due.is("20 tenths by 7", 2, x.lost(0, 2));
        due.is("none by another cause", 0, x.lost(0, 0));
        x.rest(20, 21);
        x.run(15);
        due.is("21 tenths by 7", 3, x.lost(0, 2));
        due.is("14 tenths of work by 7", 2, x.lost(0, 0));
        due.is("of cause 11", 0, x.lost(0, 11));
    }

    private static void rejectedCounts() {
        LineEvents x = new LineEvents(0);
        x.machine(1, -1);
        x.machine(1, 0);
        x.fault(1, 1, 1, 0);
        due.is("none yet", 0, x.rejected(1));
        x.run(12);
        due.is("by the second one", 9, x.rejected(1));
        due.is("none by the first one", 0, x.rejected(0));
        due.is("none is made", 0, x.made());
        due.is("they are no more inside", 3, x.inside());
        due.yes("kept", x.kept());
    }

    private static void changeHolds() {
        LineEvents x = new LineEvents(0);
        x.machine(1, -1);
        x.machine(1, -1);
        due.yes("change", x.change(3, 4));
        x.run(20);
        due.is("of the first", 4, x.time(0, 1));
        due.is("of the second", 4, x.time(1, 1));
        due.is("the others are work", 16, x.time(1, 0));
    }

    private static void restHolds() {
        LineEvents x = new LineEvents(0);
        x.machine(1, -1);
        x.machine(1, 0);
        due.yes("rest", x.rest(5, 9));
        x.run(20);
        due.is("of the first", 4, x.time(0, 2));
        due.is("of the second", 4, x.time(1, 2));
    }

    private static void timeOfCauses() {
        LineEvents x = new LineEvents(0);
        x.machine(2, -1);
        x.machine(5, 0);
        x.run(40);
        due.is("first: work", 20, x.time(0, 0));
        due.is("first: could not leave", 20, x.time(0, 11));
        due.is("first: none", 0, x.time(0, 10));
        due.is("second: work", 37, x.time(1, 0));
        due.is("second: none", 3, x.time(1, 10));
        due.is("second: could not leave", 0, x.time(1, 11));
    }

    private static void workStopsInRow() {
        LineEvents x = new LineEvents(0);
        x.machine(10, -1);
        x.row(0, 4, 104, 5);
        x.run(110);
        due.is("ten tenths of work are not done", 0, x.made());
        x.run(1);
        due.is("now they are", 1, x.made());
        due.event(x, 0, 110, 0, 1);
    }

    /** The one behind acts first: its place in the buffer is free at the same instant. */
    private static void fallingOrder() {
        LineEvents x = new LineEvents(0);
        x.machine(1, -1);
        x.machine(3, 0);
        due.is("events", 10, x.run(6));
        due.event(x, 0, 0, 0, 0);
        due.event(x, 1, 1, 0, 1);
        due.event(x, 2, 1, 0, 0);
        due.event(x, 3, 2, 1, 0);
        due.event(x, 4, 2, 0, 1);
        due.event(x, 5, 2, 0, 0);
        due.event(x, 6, 5, 1, 1);
        due.event(x, 7, 5, 1, 0);
        due.event(x, 8, 5, 0, 1);
        due.event(x, 9, 5, 0, 0);
    }

    private static void keptAlways() {
        LineEvents x = Lines.busy();
        for (int i = 0; i < 200; i++) {
            x.run(37);
            due.yes("kept at " + 37 * (i + 1), x.kept());
        }
    }
}
