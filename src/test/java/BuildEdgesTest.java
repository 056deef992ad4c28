/** Promises 1 to 4: each sentence that names a boundary has a test of its own. */
public final class BuildEdgesTest {
    private static final int NONE = LineEvents.NONE;
    private static final int FULL = LineEvents.FULL;
    private static final int MIN = Integer.MIN_VALUE;
    private static final int MAX = Integer.MAX_VALUE;
    private static final Due due = new Due();

    public static void main(String[] args) {
        newHasNoMachines();
        newHasNoInstant();
        newOfAnySeed();
        machineTenths();
        machineBehindNone();
        machineBehindOneThatIsNone();
        machineBehindOneThatHasOne();
        machineBehindARun();
        machineBehindARunThatWasNone();
        machineTwelfthAndThirteenth();
        machineNoneBeforeFull();
        machineRefusedLeavesNumbers();
        machineRefusedLeavesTheOneBefore();
        machineFullLeavesTheOneBefore();
        bufferRoom();
        bufferDelay();
        bufferOfNoMachine();
        bufferOfEachMachine();
        bufferBehindTheLast();
        bufferAnswersRoomBefore();
        bufferBehindARun();
        bufferRefusedLeavesRoom();
        bufferRefusedLeavesDelay();
        faultBelow();
        faultAbove();
        faultTenths();
        faultOfNoMachine();
        faultFourthAndFifth();
        faultBehindARun();
        faultRefusedLeavesTheirNumber();
        faultRefusedNeverDraws();
        due.end();
    }

    // ---- Promise 1

    /** "No machines" */
    private static void newHasNoMachines() {
        LineEvents x = new LineEvents(7);
        for (int m = -1; m <= 12; m++) {
            int none = m;
            due.is("new: buffer of " + m, NONE, x.buffer(m, 1, 0));
            due.no("new: fault of " + m, x.fault(m, 1, 2, 3));
            due.no("new: row of " + m, x.row(m, 5, 6, 4));
            due.throwsIndexOutside("new: lost of " + m, () -> x.lost(none, 0));
            due.throwsIndexOutside("new: rejected of " + m, () -> x.rejected(none));
            due.throwsIndexOutside("new: time of " + m, () -> x.time(none, 0));
        }
        due.is("new: made", 0, x.made());
        due.is("new: inside", 0, x.inside());
        due.yes("new: kept", x.kept());
        for (int what = 0; what < 3; what++) {
            due.is("new: no run, no events", NONE, x.event(0, what));
        }
        due.is("new: a run without machines", 0, x.run(100));
        due.yes("new: kept behind it", x.kept());
        due.is("new: made behind it", 0, x.made());
    }

    /** "instant 0 has not come" */
    private static void newHasNoInstant() {
        due.yes("rest from 0", new LineEvents(7).rest(0, 1));
        due.yes("change from 0", new LineEvents(7).change(0, 1));
        LineEvents x = Lines.one(1);
        due.yes("row from 0", x.row(0, 0, 1, 4));
        due.is("no time has gone by", 0, x.time(0, 0));
        due.is("instant 0 comes first", 0, x.run(1));
        due.is("and the row holds in it", 1, x.time(0, 4));
        LineEvents y = Lines.one(1);
        y.run(1);
        due.event(y, 0, 0, 0, 0);
    }

    private static void newOfAnySeed() {
        for (long seed : new long[] {Long.MIN_VALUE, -1, 0, 1, Long.MAX_VALUE}) {
            LineEvents x = new LineEvents(seed);
            due.is("seed " + seed, 0, x.machine(2, -1));
            due.is("seed " + seed + ": run", 3, x.run(3));
            due.is("seed " + seed + ": made", 1, x.made());
        }
    }

    // ---- Promise 2

    /** "A machine that takes so many tenths (1 to 10,000)", "NONE .. when tenths are not so many" */
    private static void machineTenths() {
        for (int tenths : new int[] {0, -1, 10_001, 10_002, MIN, MAX}) {
            due.is("machine of " + tenths, NONE, new LineEvents(0).machine(tenths, -1));
            due.is("machine of " + tenths + " behind another", NONE, Lines.one(1).machine(tenths, 0));
        }
        for (int tenths : new int[] {1, 2, 9_999, 10_000}) {
            due.is("machine of " + tenths, 0, new LineEvents(0).machine(tenths, -1));
            LineEvents x = Lines.one(1);
            due.is("machine of " + tenths + " behind another", 1, x.machine(tenths, 0));
            x.run(2 + tenths);
            due.is("it takes " + tenths, 0, x.made());
            x.run(1);
            due.is("and no more", 1, x.made());
        }
    }

    /** "or (-1) behind none" */
    private static void machineBehindNone() {
        LineEvents x = new LineEvents(0);
        due.is("the first", 0, x.machine(1, -1));
        due.is("-1 is no machine that could have one already", 1, x.machine(1, -1));
        due.is("both begin bottles", 2, x.run(1));
    }

    /** "or after is no such machine" */
    private static void machineBehindOneThatIsNone() {
        due.is("behind 0 when there is none", NONE, new LineEvents(0).machine(1, 0));
        LineEvents x = Lines.two(1, 1);
        for (int after : new int[] {-2, -3, 2, 3, 11, 12, 13, MIN, MAX}) {
            due.is("behind " + after, NONE, x.machine(1, after));
        }
        due.is("behind the last there is", 2, x.machine(1, 1));
        due.is("behind that", 3, x.machine(1, 2));
        due.is("behind itself", NONE, x.machine(1, 4));
    }

    /** "or has one behind it already" */
    private static void machineBehindOneThatHasOne() {
        LineEvents x = Lines.one(1);
        due.is("behind one that has none", 1, x.machine(1, 0));
        due.is("behind one that has one", NONE, x.machine(1, 0));
        due.is("one behind none", 2, x.machine(1, -1));
        due.is("still it has one", NONE, x.machine(1, 0));
        due.is("behind one that has none", 3, x.machine(1, 2));
        due.is("behind one that has one", NONE, x.machine(1, 2));
        due.is("the first one of two lines", 4, x.machine(1, 1));
    }

    /** "NONE, refused, once a run has gone on" */
    private static void machineBehindARun() {
        LineEvents x = Lines.one(1);
        due.is("before the run", 1, x.machine(1, -1));
        x.run(1);
        due.is("behind none, behind a run", NONE, x.machine(1, -1));
        due.is("behind 0, behind a run", NONE, x.machine(1, 0));
        LineEvents empty = new LineEvents(0);
        empty.run(1);
        due.is("the first one, behind a run", NONE, empty.machine(1, -1));
        empty.run(100_000);
        due.is("behind a second run", NONE, empty.machine(1, -1));
    }

    /** A run of no instants, or one that is refused, has not gone on. */
    private static void machineBehindARunThatWasNone() {
        LineEvents x = new LineEvents(0);
        x.run(-1);
        due.is("behind a refused run", 0, x.machine(1, -1));
        x.run(100_001);
        due.is("behind another refused run", 1, x.machine(1, -1));
        x.run(0);
        due.is("behind a run of no instants", 2, x.machine(1, -1));
    }

    /** "MACHINES have numbers from 0 on, at most 12", "FULL" */
    private static void machineTwelfthAndThirteenth() {
        LineEvents x = new LineEvents(0);
        for (int i = 0; i < 12; i++) {
            due.is("machine " + i, i, x.machine(3, i % 3 == 0 ? -1 : i - 1));
        }
        due.is("the thirteenth, behind none", FULL, x.machine(3, -1));
        due.is("the thirteenth, behind the last", FULL, x.machine(3, 11));
        due.is("the thirteenth, behind another one that has none", FULL, x.machine(3, 2));
        due.is("of the most tenths", FULL, x.machine(10_000, -1));
        due.is("of the fewest tenths", FULL, x.machine(1, -1));
        due.is("the twelfth is there", 0, x.rejected(11));
        due.throwsIndexOutside("the thirteenth is not", () -> x.rejected(12));
    }

    /** "NONE .. ; FULL": what is refused for another reason is refused so when there are 12 too. */
    private static void machineNoneBeforeFull() {
        LineEvents x = Lines.twelve(3);
        due.is("full, tenths 0", NONE, x.machine(0, -1));
        due.is("full, tenths 10,001", NONE, x.machine(10_001, -1));
        due.is("full, behind one that has one", NONE, x.machine(3, 10));
        due.is("full, behind none such", NONE, x.machine(3, 12));
        due.is("full, behind -2", NONE, x.machine(3, -2));
        x.run(1);
        due.is("full, behind a run", NONE, x.machine(3, -1));
    }

    /** "refused": no number is used up, and there is no machine more. */
    private static void machineRefusedLeavesNumbers() {
        LineEvents x = new LineEvents(0);
        for (int i = 0; i < 12; i++) {
            int next = i;
            x.machine(0, -1);
            x.machine(10_001, i - 1);
            x.machine(1, i);
            due.throwsIndexOutside("none was added: " + i, () -> x.rejected(next));
            due.is("machine " + i, i, x.machine(1, -1));
        }
        due.is("then it is full", FULL, x.machine(1, -1));
        due.is("twelve begin a bottle", 12, x.run(1));
        x.machine(1, -1);
        due.throwsIndexOutside("none is added behind a run", () -> x.rejected(12));
    }

    /** "refused": nothing stands behind the one that was named. */
    private static void machineRefusedLeavesTheOneBefore() {
        LineEvents x = Lines.one(1);
        x.machine(0, 0);
        x.machine(10_001, 0);
        x.run(3);
        due.is("its bottles are made", 2, x.made());
        x.machine(1, 0);
        x.run(3);
        due.is("and so behind a run", 5, x.made());

        LineEvents y = Lines.one(1);
        y.machine(0, 0);
        due.is("one may stand behind it still", 1, y.machine(1, 0));
    }

    /** "FULL": nothing stands behind the one that was named. */
    private static void machineFullLeavesTheOneBefore() {
        LineEvents x = new LineEvents(0);
        for (int i = 0; i < 12; i++) {
            x.machine(i == 11 ? 1 : 10_000, -1);
        }
        due.is("full", FULL, x.machine(1, 11));
        due.is("full again, not refused for one that has one", FULL, x.machine(1, 11));
        x.run(101);
        due.is("its bottles are made", 100, x.made());
    }

    // ---- Promise 3

    /** "Room (1 to 1,000)", "NONE .. for other numbers" */
    private static void bufferRoom() {
        for (int room : new int[] {0, -1, 1001, 1002, MIN, MAX}) {
            due.is("room " + room, NONE, Lines.one(1).buffer(0, room, 0));
        }
        for (int room : new int[] {1, 2, 999, 1000}) {
            LineEvents x = Lines.two(1, 10_000);
            due.is("room " + room, 1, x.buffer(0, room, 0));
            x.run(5000);
            due.is("so many are in it", room + 2, x.inside());
        }
    }

    /** "and delay (0 to 10,000)", "NONE .. for other numbers" */
    private static void bufferDelay() {
        for (int delay : new int[] {-1, -2, 10_001, 10_002, MIN, MAX}) {
            due.is("delay " + delay, NONE, Lines.one(1).buffer(0, 1, delay));
        }
        for (int delay : new int[] {0, 1, 2, 9_999, 10_000}) {
            LineEvents x = Lines.two(1, 1);
            due.is("delay " + delay, 1, x.buffer(0, 1, delay));
            x.run(1 + Math.max(1, delay));
            due.is("none is taken before it", 0, x.time(1, 0));
            x.run(1);
            due.is("one is taken with it", 1, x.time(1, 0));
        }
    }

    /** "NONE .. when there is no such machine" */
    private static void bufferOfNoMachine() {
        LineEvents x = Lines.two(1, 1);
        for (int m : new int[] {-1, -2, 2, 11, 12, MIN, MAX}) {
            due.is("buffer of " + m, NONE, x.buffer(m, 5, 5));
        }
        due.is("of the first", 1, x.buffer(0, 5, 5));
        due.is("of the last", 1, x.buffer(1, 5, 5));
        LineEvents full = Lines.twelve(1);
        due.is("of the twelfth", 1, full.buffer(11, 5, 5));
        due.is("of the thirteenth", NONE, full.buffer(12, 5, 5));
    }

    private static void bufferOfEachMachine() {
        LineEvents x = Lines.twelve(1);
        for (int m = 0; m < 12; m++) {
            due.is("room at first of " + m, 1, x.buffer(m, 10 + m, m));
        }
        for (int m = 0; m < 12; m++) {
            due.is("room of its own of " + m, 10 + m, x.buffer(m, 1, 0));
        }
    }

    /** The buffer of a machine with none behind it is told for one that may come; none waits in it. */
    private static void bufferBehindTheLast() {
        LineEvents x = Lines.one(1);
        due.is("told", 1, x.buffer(0, 2, 10_000));
        x.run(101);
        due.is("all are made at once", 100, x.made());
        due.is("none is in it", 1, x.inside());

        LineEvents y = Lines.one(1);
        y.buffer(0, 4, 20);
        y.machine(1000, 0);
        y.run(21);
        due.is("the delay holds for one that came later", 21, y.time(1, 10));
        due.is("the room too", 5, y.inside());
    }

    /** "its room before" */
    private static void bufferAnswersRoomBefore() {
        LineEvents x = Lines.one(1);
        due.is("at first", 1, x.buffer(0, 1000, 10_000));
        due.is("the most", 1000, x.buffer(0, 1, 0));
        due.is("the least", 1, x.buffer(0, 7, 0));
        due.is("the same once more", 7, x.buffer(0, 7, 3));
        due.is("and again", 7, x.buffer(0, 7, 3));
    }

    /** "NONE, refused, once a run has gone on" */
    private static void bufferBehindARun() {
        LineEvents x = Lines.two(1, 10_000);
        x.run(0);
        due.is("behind a run of no instants", 1, x.buffer(0, 2, 0));
        x.run(-1);
        due.is("behind a refused run", 2, x.buffer(0, 3, 0));
        x.run(1);
        due.is("behind a run", NONE, x.buffer(0, 9, 0));
        due.is("the same again, behind a run", NONE, x.buffer(0, 3, 0));
        x.run(100);
        due.is("its room is what it was", 5, x.inside());
    }

    /** "refused": the room stays, whichever number was wrong. */
    private static void bufferRefusedLeavesRoom() {
        LineEvents x = Lines.one(1);
        x.buffer(0, 6, 0);
        int[][] wrong = {{0, 0, 0}, {0, 1001, 0}, {0, 9, -1}, {0, 9, 10_001}, {-1, 9, 9}, {1, 9, 9}};
        for (int[] w : wrong) {
            due.is("buffer(" + w[0] + ", " + w[1] + ", " + w[2] + ")", NONE, x.buffer(w[0], w[1], w[2]));
            due.is("the room stays", 6, x.buffer(0, 6, 0));
        }
    }

    /** "refused": the delay stays, whichever number was wrong. */
    private static void bufferRefusedLeavesDelay() {
        int[][] wrong = {{0, 0, 9}, {0, 1001, 9}, {0, 9, -1}, {0, 9, 10_001}, {-1, 9, 9}, {2, 9, 9}};
        for (int[] w : wrong) {
            LineEvents x = Lines.two(1, 1);
            x.buffer(0, 6, 4);
            due.is("buffer(" + w[0] + ", " + w[1] + ", " + w[2] + ")", NONE, x.buffer(w[0], w[1], w[2]));
            x.run(5);
            due.is("none is taken before the delay", 0, x.time(1, 0));
            x.run(1);
            due.is("one is taken with it", 1, x.time(1, 0));
        }
        LineEvents y = Lines.two(3, 1);
        y.buffer(0, 6, 4);
        y.run(1);
        y.buffer(0, 6, 9);
        y.run(6);
        due.is("behind a run: none is taken before the delay", 0, y.time(1, 0));
        y.run(1);
        due.is("behind a run: one is taken with it", 1, y.time(1, 0));
    }

    // ---- Promise 4

    /** "below 1 to 1,000,000", "False .. for other numbers" */
    private static void faultBelow() {
        for (long below : new long[] {0, -1, 1_000_001, 1_000_002, Long.MIN_VALUE, Long.MAX_VALUE, (1L << 32) + 1}) {
            due.no("below " + below, Lines.one(1).fault(0, 0, below, 3));
            due.no("above and below " + below, Lines.one(1).fault(0, below, below, 3));
        }
        for (long below : new long[] {1, 2, 999_999, 1_000_000}) {
            due.yes("below " + below, Lines.one(1).fault(0, 0, below, 3));
        }
    }

    /** "above 0 to below", "False .. for other numbers" */
    private static void faultAbove() {
        for (long below : new long[] {1, 2, 999_999, 1_000_000}) {
            for (long above : new long[] {-1, below + 1, Long.MIN_VALUE, Long.MAX_VALUE, 1L << 32, -(1L << 32)}) {
                due.no("above " + above + " out of " + below, Lines.one(1).fault(0, above, below, 3));
            }
            for (long above : new long[] {0, 1, below - 1, below}) {
                due.yes("above " + above + " out of " + below, Lines.one(1).fault(0, above, below, 3));
            }
        }
    }

    /** "tenths 0 to 100,000", "False .. for other numbers" */
    private static void faultTenths() {
        for (int tenths : new int[] {-1, -2, 100_001, 100_002, MIN, MAX}) {
            due.no("tenths " + tenths, Lines.one(1).fault(0, 1, 1, tenths));
        }
        for (int tenths : new int[] {1, 2, 99_999, 100_000}) {
            LineEvents x = Lines.one(1);
            due.yes("tenths " + tenths, x.fault(0, 1, 1, tenths));
            x.run(1);
            x.run(tenths);
            due.is("it stands for them", 0, x.made());
            x.run(1);
            due.is("and no longer", 1, x.made());
        }
        LineEvents none = Lines.one(1);
        due.yes("no tenths", none.fault(0, 1, 1, 0));
        none.run(2);
        due.is("it rejects", 1, none.rejected(0));
    }

    /** "when there is no such machine" */
    private static void faultOfNoMachine() {
        LineEvents x = Lines.two(1, 1);
        for (int m : new int[] {-1, -2, 2, 11, 12, MIN, MAX}) {
            due.no("fault of " + m, x.fault(m, 1, 1, 0));
        }
        due.yes("of the last", x.fault(1, 1, 1, 0));
        due.yes("of the first", x.fault(0, 0, 1, 0));
        LineEvents full = Lines.twelve(1);
        due.yes("of the twelfth", full.fault(11, 1, 1, 0));
        due.no("of the thirteenth", full.fault(12, 1, 1, 0));
    }

    /** "FAULTS of a machine, at most four", "or when it has four" */
    private static void faultFourthAndFifth() {
        LineEvents x = Lines.twelve(1);
        for (int m = 0; m < 12; m++) {
            for (int f = 1; f <= 4; f++) {
                due.yes("fault " + f + " of " + m, x.fault(m, 0, 1, f - 1));
            }
            due.no("the fifth of " + m, x.fault(m, 0, 1, 0));
            due.no("the fifth of " + m + ", of tenths", x.fault(m, 1, 1, 5));
        }
        LineEvents y = Lines.one(1);
        for (int f = 1; f <= 3; f++) {
            y.fault(0, 0, 1, 0);
        }
        y.fault(0, 1, 1, 2);
        y.fault(0, 1, 1, 7);
        y.run(4);
        due.is("the fourth counts, the fifth does not", 1, y.made());
    }

    /** "False, refused, once a run has gone on" */
    private static void faultBehindARun() {
        LineEvents x = Lines.one(1);
        x.run(0);
        due.yes("behind a run of no instants", x.fault(0, 0, 1, 0));
        x.run(100_001);
        due.yes("behind a refused run", x.fault(0, 0, 1, 0));
        x.run(1);
        due.no("behind a run", x.fault(0, 1, 1, 0));
        x.run(10);
        due.is("it never hits", 0, x.rejected(0));
        due.is("all are made", 10, x.made());
    }

    /** "refused": it is not one of the four. */
    private static void faultRefusedLeavesTheirNumber() {
        LineEvents x = Lines.one(1);
        for (int f = 1; f <= 4; f++) {
            x.fault(0, 0, 0, 0);
            x.fault(0, 0, 1_000_001, 0);
            x.fault(0, -1, 1, 0);
            x.fault(0, 2, 1, 0);
            x.fault(0, 0, 1, -1);
            x.fault(0, 0, 1, 100_001);
            x.fault(1, 0, 1, 0);
            due.yes("fault " + f, x.fault(0, 0, 1, 0));
        }
        due.no("the fifth", x.fault(0, 0, 1, 0));
    }

    /** "refused": it draws no number, and hits never. */
    private static void faultRefusedNeverDraws() {
        long first = Drawn.number(0, 1, 1000);
        for (int more = 0; more < 2; more++) {
            LineEvents x = Lines.one(1);
            x.fault(0, 1, 1, -1);
            x.fault(0, 1, 1, 100_001);
            x.fault(0, 2, 1, 0);
            x.fault(0, 0, 0, 0);
            x.fault(0, first + more, 1000, 0);
            x.fault(1, 1, 1, 0);
            x.run(2);
            due.is("the first number is the good one's", more, x.rejected(0));
            due.is("it does not stand", 0, x.time(0, 3));
        }
    }
}
