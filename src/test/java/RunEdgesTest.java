/** Promises 6 to 11, 14 and 15: each sentence that names a boundary has a test of its own. */
public final class RunEdgesTest {
    private static final int NONE = LineEvents.NONE;
    private static final int LAST = 1_000_000_000;
    private static final int MIN = Integer.MIN_VALUE;
    private static final int MAX = Integer.MAX_VALUE;
    private static final Due due = new Due();

    public static void main(String[] args) {
        runTenths();
        runOfNoInstants();
        runOfOneInstant();
        runOfMostInstants();
        runWithoutMachines();
        runRefusedLeavesTheInstant();
        runBeyondTheLastInstant();
        eventNumbers();
        eventWhat();
        eventKinds();
        eventOfNoRun();
        eventOfARunWithNone();
        eventOfTheLastRunOnly();
        eventNineHundredNinetyNinth();
        eventOfExactlyAThousand();
        eventInTheOrderInWhichTheyHappen();
        eventStaysBehindARefusedRun();
        madeNone();
        madeOfSeveralLines();
        madeAtTheInstantAtWhichItLeaves();
        insideNone();
        insideFull();
        lostWholeOnes();
        lostOfMachineOfMostTenths();
        lostCauses();
        lostOfNoMachine();
        lostThrownChangesNothing();
        rejectedNone();
        rejectedOfEachMachine();
        rejectedOfNoMachine();
        timeNone();
        timeCauses();
        timeOfNoMachine();
        timeOfEachCause();
        noMachineAndNoCause();
        keptWhenEmpty();
        keptWhenFull();
        keptAtEachInstant();
        due.end();
    }

    // ---- Promise 6

    /** "So many instants (0 to 100,000) come", "NONE, refused, for another number" */
    private static void runTenths() {
        for (int tenths : new int[] {-1, -2, 100_001, 100_002, LAST, LAST + 1, MIN, MAX}) {
            due.is("run of " + tenths, NONE, Lines.one(1).run(tenths));
        }
        for (int tenths : new int[] {1, 2, 99_999, 100_000}) {
            LineEvents x = Lines.one(1);
            due.is("run of " + tenths, 2 * tenths - 1, x.run(tenths));
            due.is("so many tenths", tenths, x.time(0, 0));
            due.is("run of " + tenths + " again", 2 * tenths, x.run(tenths));
            due.is("twice as many", 2L * tenths, x.time(0, 0));
        }
    }

    /** "So many instants (0 .."): none comes. */
    private static void runOfNoInstants() {
        LineEvents x = Lines.one(1);
        due.is("run(0)", 0, x.run(0));
        due.is("no time goes by", 0, x.time(0, 0));
        due.is("nothing is begun", 0, x.inside());
        due.yes("instant 0 has not come", x.rest(0, 1));
        x.run(5);
        due.is("run(0) again", 0, x.run(0));
        due.is("no time goes by again", 4, x.time(0, 0));
        due.yes("instant 5 has not come", x.rest(5, 6));
        due.yes("kept", x.kept());
    }

    private static void runOfOneInstant() {
        LineEvents x = Lines.one(3);
        int[] events = {1, 0, 0, 2, 0, 0, 2, 0};
        for (int instant = 0; instant < events.length; instant++) {
            due.is("events of instant " + instant, events[instant], x.run(1));
        }
        due.is("all tenths", events.length, x.time(0, 0));
    }

    /** "how many events there were": all of them, though 1,000 are told of. */
    private static void runOfMostInstants() {
        LineEvents x = new LineEvents(0);
        for (int i = 0; i < 12; i++) {
            x.machine(1, -1);
        }
        due.is("12 times 199,999", 2_399_988, x.run(100_000));
        due.is("12 times 200,000", 2_400_000, x.run(100_000));
        due.is("made", 12L * 199_999, x.made());
        due.yes("kept", x.kept());
    }

    private static void runWithoutMachines() {
        LineEvents x = new LineEvents(0);
        due.is("run", 0, x.run(100_000));
        due.is("no events", NONE, x.event(0, 0));
        due.no("its instants came", x.rest(99_999, 100_001));
        due.yes("the next one did not", x.rest(100_000, 100_001));
        due.yes("kept", x.kept());
    }

    /** "refused": no instant comes. */
    private static void runRefusedLeavesTheInstant() {
        LineEvents x = Lines.one(1);
        x.run(-1);
        x.run(100_001);
        due.yes("instant 0 has not come", x.row(0, 0, 1, 4));
        x.run(10);
        x.run(-1);
        x.run(100_001);
        x.run(MIN);
        x.run(MAX);
        due.is("ten tenths", 9, x.time(0, 0));
        due.is("made", 8, x.made());
        due.is("inside", 1, x.inside());
        due.no("instant 9 has come", x.row(0, 9, 11, 4));
        due.yes("instant 10 has not", x.row(0, 10, 11, 4));
        due.yes("kept", x.kept());
    }

    /**
     * "or beyond instant 1,000,000,000". Only some 10,000 calls reach it, and the document leaves
     * free what those behind the 512th answer: this class keeps the sentence for them too.
     */
    private static void runBeyondTheLastInstant() {
        LineEvents x = Lines.one(1);
        x.rest(1, LAST);
        for (int i = 0; i < 9_999; i++) {
            x.run(100_000);
        }
        due.is("up to one before it", 0, x.run(99_999));
        due.is("beyond it by one", NONE, x.run(2));
        due.is("far beyond it", NONE, x.run(100_000));
        due.is("none comes", 0, x.run(0));
        due.is("the rest's time", LAST - 2L, x.time(0, 2));
        due.is("up to it", 0, x.run(1));
        due.is("beyond it", NONE, x.run(1));
        due.is("none comes", 0, x.run(0));
        due.is("the rest's time", LAST - 1L, x.time(0, 2));
        due.is("the work before it", 1, x.time(0, 0));
        due.yes("kept", x.kept());
    }

    // ---- Promise 7

    /** "Event k of the last run, from 0" */
    private static void eventNumbers() {
        LineEvents x = Lines.one(1);
        due.is("events", 5, x.run(3));
        due.event(x, 0, 0, 0, 0);
        due.event(x, 4, 2, 0, 0);
        for (int k : new int[] {-1, -2, 5, 6, 999, 1000, 1001, MIN, MAX, MIN / 3, MAX / 3, MAX / 3 + 1}) {
            for (int what = 0; what < 3; what++) {
                due.is("event(" + k + ", " + what + ")", NONE, x.event(k, what));
            }
        }
    }

    /** "its instant (what = 0), machine (1), kind (2)" */
    private static void eventWhat() {
        LineEvents x = Lines.two(1, 1);
        x.run(5);
        // Instant 2 begins with the fourth event: machine 1 takes a bottle.
        due.is("instant", 2, x.event(3, 0));
        due.is("machine", 1, x.event(3, 1));
        due.is("kind", 0, x.event(3, 2));
        for (int what : new int[] {-1, -2, 3, 4, MIN, MAX}) {
            for (int k = 0; k < 5; k++) {
                due.is("event(" + k + ", " + what + ")", NONE, x.event(k, what));
            }
        }
    }

    /** "0 it takes a bottle, 1 one leaves, 2 one is rejected, 3 it stands for a fault" */
    private static void eventKinds() {
        LineEvents x = Lines.two(1, 1);
        x.fault(0, 1, 1, 1);
        x.fault(1, 1, 1, 0);
        due.is("events", 9, x.run(5));
        due.event(x, 0, 0, 0, 0);
        due.event(x, 1, 1, 0, 3);
        due.event(x, 2, 2, 0, 1);
        due.event(x, 3, 2, 0, 0);
        due.event(x, 4, 3, 1, 0);
        due.event(x, 5, 3, 0, 3);
        due.event(x, 6, 4, 1, 2);
        due.event(x, 7, 4, 0, 1);
        due.event(x, 8, 4, 0, 0);
    }

    /** "NONE": there was no run. */
    private static void eventOfNoRun() {
        LineEvents x = Lines.one(1);
        due.is("no run", NONE, x.event(0, 0));
        x.run(-1);
        due.is("a refused run", NONE, x.event(0, 0));
        x.run(0);
        due.is("a run of no instants", NONE, x.event(0, 0));
    }

    /** "NONE": the last run had no events. */
    private static void eventOfARunWithNone() {
        LineEvents x = Lines.one(100);
        due.is("events", 1, x.run(1));
        due.event(x, 0, 0, 0, 0);
        due.is("no events", 0, x.run(50));
        for (int what = 0; what < 3; what++) {
            due.is("event(0, " + what + ")", NONE, x.event(0, what));
        }
        x.run(50);
        due.event(x, 0, 100, 0, 1);
        due.is("a run of no instants is the last one too", 0, x.run(0));
        due.is("and has no events", NONE, x.event(0, 0));
    }

    /** "of the last run": no event of an earlier one. */
    private static void eventOfTheLastRunOnly() {
        LineEvents x = Lines.one(1);
        x.run(400);
        due.is("a shorter one", 6, x.run(3));
        due.event(x, 0, 400, 0, 1);
        due.event(x, 5, 402, 0, 0);
        due.is("behind its last", NONE, x.event(6, 0));
        due.is("an earlier run's", NONE, x.event(700, 0));
        due.is("a longer one", 8, x.run(4));
        due.event(x, 7, 406, 0, 0);
        due.is("behind its last", NONE, x.event(8, 0));
    }

    /** "of its first 1,000" */
    private static void eventNineHundredNinetyNinth() {
        LineEvents x = Lines.one(1);
        due.is("one more than a thousand", 1001, x.run(501));
        due.event(x, 0, 0, 0, 0);
        due.event(x, 998, 499, 0, 0);
        due.event(x, 999, 500, 0, 1);
        for (int what = 0; what < 3; what++) {
            due.is("event(1000, " + what + ")", NONE, x.event(1000, what));
        }
        due.is("many more than a thousand", 20_000, x.run(10_000));
        due.event(x, 0, 501, 0, 1);
        due.event(x, 999, 1000, 0, 0);
        due.is("event(1000)", NONE, x.event(1000, 0));
        due.is("event(1001)", NONE, x.event(1001, 0));
        due.is("event(19999)", NONE, x.event(19_999, 0));
    }

    private static void eventOfExactlyAThousand() {
        LineEvents x = Lines.one(1);
        x.run(1);
        due.is("a thousand", 1000, x.run(500));
        due.event(x, 999, 500, 0, 0);
        due.is("event(1000)", NONE, x.event(1000, 0));
        LineEvents y = Lines.one(1);
        due.is("one fewer than a thousand", 999, y.run(500));
        due.event(y, 998, 499, 0, 0);
        due.is("event(999)", NONE, y.event(999, 0));
    }

    /** "In the order in which they happen": by instants, then by falling numbers, then as a turn goes. */
    private static void eventInTheOrderInWhichTheyHappen() {
        LineEvents x = new LineEvents(0);
        x.machine(2, -1);
        x.machine(1, -1);
        x.fault(1, 1, 1, 0);
        due.is("events", 8, x.run(3));
        due.event(x, 0, 0, 1, 0);
        due.event(x, 1, 0, 0, 0);
        due.event(x, 2, 1, 1, 2);
        due.event(x, 3, 1, 1, 0);
        due.event(x, 4, 2, 1, 2);
        due.event(x, 5, 2, 1, 0);
        due.event(x, 6, 2, 0, 1);
        due.event(x, 7, 2, 0, 0);
        due.is("no more", NONE, x.event(8, 0));
    }

    /** A refused run is not the last one: its events stay. */
    private static void eventStaysBehindARefusedRun() {
        LineEvents x = Lines.one(1);
        x.run(3);
        x.run(100_001);
        due.event(x, 4, 2, 0, 0);
        x.run(-1);
        due.event(x, 0, 0, 0, 0);
        due.event(x, 4, 2, 0, 0);
        due.is("behind its last", NONE, x.event(5, 0));
        due.is("the next run", 2, x.run(1));
        due.event(x, 0, 3, 0, 1);
    }

    // ---- Promises 8 and 9

    private static void madeNone() {
        due.is("no machines", 0, new LineEvents(0).made());
        due.is("no run", 0, Lines.one(1).made());
        LineEvents x = Lines.two(1, 10_000);
        x.run(10_000);
        due.is("none was done", 0, x.made());
        LineEvents rejecting = Lines.one(1);
        rejecting.fault(0, 1, 1, 0);
        rejecting.run(1000);
        due.is("rejected ones are not made", 0, rejecting.made());
    }

    private static void madeOfSeveralLines() {
        LineEvents x = new LineEvents(0);
        for (int i = 0; i < 12; i++) {
            x.machine(i + 1, -1);
        }
        x.run(61);
        int made = 0;
        for (int takes = 1; takes <= 12; takes++) {
            made += 60 / takes;
        }
        due.is("all lines together", made, x.made());
        due.is("one in each", 12, x.inside());
    }

    /** "MADE when they leave it" */
    private static void madeAtTheInstantAtWhichItLeaves() {
        LineEvents x = Lines.one(10);
        x.run(10);
        due.is("worked on", 0, x.made());
        due.is("inside", 1, x.inside());
        x.run(1);
        due.is("left", 1, x.made());
        due.is("the next one is inside", 1, x.inside());
    }

    private static void insideNone() {
        due.is("no machines", 0, new LineEvents(0).inside());
        due.is("no run", 0, Lines.twelve(1).inside());
        LineEvents x = Lines.two(1, 1);
        x.rest(0, 50);
        x.run(50);
        due.is("all stand", 0, x.inside());
        x.run(1);
        due.is("one is begun", 1, x.inside());
    }

    /** As many as there is room for: 12 machines, 11 buffers of 1,000. */
    private static void insideFull() {
        LineEvents x = new LineEvents(0);
        for (int i = 0; i < 12; i++) {
            x.machine(1, i - 1);
            x.buffer(i, 1000, 0);
        }
        x.row(11, 0, 20_000, 4);
        x.run(20_000);
        due.is("all but in the last one", 11 + 11 * 1000, x.inside());
        due.is("no room any more", 0, x.made());
        due.yes("kept", x.kept());
        x.run(2);
        due.is("the last one has one too", 12 + 11 * 1000, x.inside());
        due.is("one is made", 1, x.made());
        due.yes("kept still", x.kept());
        x.run(5000);
        due.is("the first was never without room", 12 + 11 * 1000, x.inside());
        due.is("one each tenth", 5001, x.made());
        due.yes("kept in the end", x.kept());
    }

    // ---- Promises 10, 11 and 14

    /** "those tenths by its own, whole ones" */
    private static void lostWholeOnes() {
        LineEvents x = Lines.one(7);
        x.rest(0, 1000);
        for (int tenths = 1; tenths <= 50; tenths++) {
            x.run(1);
            due.is("in " + tenths + " tenths", tenths / 7, x.lost(0, 2));
        }
        due.is("of another cause", 0, x.lost(0, 0));
    }

    private static void lostOfMachineOfMostTenths() {
        LineEvents x = Lines.one(10_000);
        x.machine(1, -1);
        x.rest(0, 100_000);
        x.run(9_999);
        due.is("one tenth too few", 0, x.lost(0, 2));
        due.is("one for each tenth", 9_999, x.lost(1, 2));
        x.run(1);
        due.is("just one", 1, x.lost(0, 2));
        x.run(9_999);
        due.is("just one still", 1, x.lost(0, 2));
        x.run(1);
        due.is("two", 2, x.lost(0, 2));
    }

    /** "NONE when there is no such cause (0 to 11)" */
    private static void lostCauses() {
        LineEvents x = Lines.busy();
        x.run(3000);
        for (int m = 0; m < 3; m++) {
            int takes = new int[] {7, 5, 6}[m];
            for (int cause = 0; cause <= 11; cause++) {
                due.is("lost(" + m + ", " + cause + ")", x.time(m, cause) / takes, x.lost(m, cause));
            }
            for (int cause : new int[] {-1, -2, 12, 13, MIN, MAX}) {
                due.is("lost(" + m + ", " + cause + ")", NONE, x.lost(m, cause));
            }
        }
    }

    /** "A machine that is none is thrown as an index outside" */
    private static void lostOfNoMachine() {
        LineEvents x = Lines.two(1, 1);
        for (int m : new int[] {-1, -2, 2, 3, 11, 12, 13, MIN, MAX}) {
            due.throwsIndexOutside("lost of " + m, () -> x.lost(m, 0));
        }
        due.is("of the first", 0, x.lost(0, 0));
        due.is("of the last", 0, x.lost(1, 11));
        LineEvents full = Lines.twelve(1);
        due.is("of the twelfth", 0, full.lost(11, 0));
        due.throwsIndexOutside("of the thirteenth", () -> full.lost(12, 0));
    }

    /** "and nothing changes": in each of the three. */
    private static void lostThrownChangesNothing() {
        LineEvents thrown = Lines.busy();
        LineEvents other = Lines.busy();
        thrown.run(700);
        other.run(700);
        due.throwsIndexOutside("lost", () -> thrown.lost(3, 0));
        due.throwsIndexOutside("rejected", () -> thrown.rejected(3));
        due.throwsIndexOutside("time", () -> thrown.time(3, 0));
        due.same("behind what was thrown", Look.at(other, 3), Look.at(thrown, 3));
        due.is("and it goes on", other.run(500), thrown.run(500));
        due.same("behind another run", Look.at(other, 3), Look.at(thrown, 3));
    }

    private static void rejectedNone() {
        LineEvents x = Lines.two(1, 1);
        due.is("no run", 0, x.rejected(0));
        x.run(100);
        due.is("no fault: first", 0, x.rejected(0));
        due.is("no fault: second", 0, x.rejected(1));
        LineEvents standing = Lines.one(1);
        standing.fault(0, 1, 1, 1);
        standing.run(100);
        due.is("a fault of tenths rejects none", 0, standing.rejected(0));
    }

    private static void rejectedOfEachMachine() {
        LineEvents x = new LineEvents(0);
        for (int i = 0; i < 12; i++) {
            x.machine(i + 1, -1);
            x.fault(i, 1, 1, 0);
        }
        x.run(61);
        for (int i = 0; i < 12; i++) {
            due.is("rejected by " + i, 60 / (i + 1), x.rejected(i));
        }
        due.is("none is made", 0, x.made());
        due.yes("kept", x.kept());
    }

    /** "(so in the next ones)" */
    private static void rejectedOfNoMachine() {
        LineEvents x = Lines.two(1, 1);
        for (int m : new int[] {-1, -2, 2, 3, 11, 12, 13, MIN, MAX}) {
            due.throwsIndexOutside("rejected of " + m, () -> x.rejected(m));
        }
        due.is("of the last", 0, x.rejected(1));
        LineEvents full = Lines.twelve(1);
        due.is("of the twelfth", 0, full.rejected(11));
        due.throwsIndexOutside("of the thirteenth", () -> full.rejected(12));
    }

    private static void timeNone() {
        LineEvents x = Lines.twelve(1);
        for (int m = 0; m < 12; m++) {
            for (int cause = 0; cause <= 11; cause++) {
                due.is("no run: time(" + m + ", " + cause + ")", 0, x.time(m, cause));
            }
        }
    }

    /** "NONE when there is no such cause" */
    private static void timeCauses() {
        LineEvents x = Lines.one(1);
        x.run(9);
        due.is("the first cause", 9, x.time(0, 0));
        due.is("the last cause", 0, x.time(0, 11));
        for (int cause : new int[] {-1, -2, 12, 13, MIN, MAX}) {
            due.is("time(0, " + cause + ")", NONE, x.time(0, cause));
        }
    }

    /** "(so in the next ones)" */
    private static void timeOfNoMachine() {
        LineEvents x = Lines.two(1, 1);
        for (int m : new int[] {-1, -2, 2, 3, 11, 12, 13, MIN, MAX}) {
            due.throwsIndexOutside("time of " + m, () -> x.time(m, 0));
        }
        due.is("of the last", 0, x.time(1, 0));
        LineEvents full = Lines.twelve(1);
        due.is("of the twelfth", 0, full.time(11, 0));
        due.throwsIndexOutside("of the thirteenth", () -> full.time(12, 0));
    }

    /** Each of the twelve causes has its own time. */
    private static void timeOfEachCause() {
        LineEvents x = Lines.two(1, 1);
        x.fault(1, 1, 1, 30);
        x.change(100, 1);
        x.rest(101, 103);
        int from = 103;
        for (int cause = 4; cause <= 9; cause++) {
            x.row(1, from, from + cause, cause);
            from += cause;
        }
        x.run(from);
        // Machine 1 works at 2, 33, 64, 95 and stands for 30 tenths behind each.
        int[] times = {4, 1, 2, 94, 4, 5, 6, 7, 8, 9, 2, 0};
        for (int cause = 0; cause <= 11; cause++) {
            due.is("time of " + cause, times[cause], x.time(1, cause));
        }
        due.is("the first could not let one leave", from - 3 - 6, x.time(0, 11));
        due.yes("kept", x.kept());
    }

    /** A machine that is none is thrown, whatever the cause is. */
    private static void noMachineAndNoCause() {
        LineEvents x = Lines.one(1);
        for (int cause : new int[] {-1, 12, MIN, MAX}) {
            due.throwsIndexOutside("lost(1, " + cause + ")", () -> x.lost(1, cause));
            due.throwsIndexOutside("time(-1, " + cause + ")", () -> x.time(-1, cause));
        }
    }

    // ---- Promise 15

    private static void keptWhenEmpty() {
        LineEvents x = new LineEvents(0);
        due.yes("new", x.kept());
        x.run(100);
        due.yes("behind a run without machines", x.kept());
        LineEvents y = Lines.twelve(1);
        due.yes("twelve machines, no run", y.kept());
        y.run(0);
        due.yes("no instants", y.kept());
        y.run(-1);
        due.yes("a refused run", y.kept());
    }

    private static void keptWhenFull() {
        LineEvents x = Lines.two(1, 10_000);
        x.buffer(0, 1000, 10_000);
        x.run(100_000);
        due.yes("a full buffer", x.kept());
        LineEvents y = Lines.one(1);
        y.fault(0, 1, 2, 0);
        y.run(100_000);
        due.yes("many rejected", y.rejected(0) > 0 && y.kept());
    }

    /** "all bottles that were begun are made, inside or rejected", "times are together all tenths" */
    private static void keptAtEachInstant() {
        LineEvents x = Lines.busy();
        for (int instant = 0; instant < 200; instant++) {
            x.run(instant % 9);
            due.yes("kept in part " + instant, x.kept());
        }
    }
}
