/** The sentences under "Terms" that name a boundary, each with a test of its own. */
public final class TermsEdgesTest {
    private static final long[] SEEDS = {0, 1, -1, 42, Long.MIN_VALUE, Long.MAX_VALUE, 1L << 33, -(1L << 33), 0x5DEECE66DL};
    private static final long[] BELOWS = {1, 2, 3, 7, 64, 999_999, 1_000_000};
    private static final Due due = new Due();

    public static void main(String[] args) {
        alwaysHasBottlesToBegin();
        madeOnlyBehindTheLast();
        roomIsOneAtFirst();
        delayIsNoughtAtFirst();
        rowHoldsFromItsFirstInstantUpToItsEnd();
        rowsThatTouch();
        rowOfOneMachineOnly();
        rowOfAll();
        onceEachInFallingOrder();
        faultOfOneTenthEnds();
        longestFaultEnds();
        faultAndRowTogether();
        standingEndsWithTheLaterOne();
        workedOneTenth();
        workedMostTenths();
        judgedWhenTheRowIsOver();
        judgedOnceThoughItStays();
        judgedOnceThoughItStood();
        judgedAgainByTheNextMachine();
        hitsWhenLessThanAbove();
        neverHitsAndAlwaysHits();
        drawsInTheOrderTold();
        drawsThoughItCannotHit();
        noFaultDrawsNothing();
        oneRowOfNumbersForAllMachines();
        rejectedThoughAnotherHit();
        rejectedDrawsNoMore();
        rejectedAndTakesAtOnce();
        greatestTenthsInAnyOrder();
        standingEndsTheTurn();
        leavesIfThereIsRoom();
        largestRoom();
        roomFreedAtTheSameInstant();
        takenAtAnEarlierInstantOnly();
        takenBehindTheDelay();
        longestDelay();
        delayOfEachBottleInARing();
        takesNoneFromAnEmptyBuffer();
        causeOfTheRowToldFirst();
        causeOfFaultBehindRow();
        causeOfWorkAndWaiting();
        seedsOfAllSizes();
        due.end();
    }

    /** "One with none before it always has bottles to begin." */
    private static void alwaysHasBottlesToBegin() {
        LineEvents x = Lines.one(1);
        x.fault(0, 1, 1, 0);
        due.is("events of 100,000 bottles", 199_999, x.run(100_000));
        due.is("it never has none", 0, x.time(0, 10));
        due.is("all but the one inside are rejected", 99_999, x.rejected(0));
    }

    /** "those of one with none behind it are MADE when they leave it" */
    private static void madeOnlyBehindTheLast() {
        LineEvents x = Lines.two(1, 1);
        x.machine(1, -1);
        due.is("2, 4 and 5 events", 11, x.run(3));
        due.is("two of machine 2, none of machine 0", 2, x.made());
        x.run(1);
        due.is("one of machine 1 is made too", 4, x.made());
    }

    /** "a BUFFER with ROOM for some bottles (1 at first)" */
    private static void roomIsOneAtFirst() {
        LineEvents x = Lines.two(1, 10_000);
        x.run(50);
        due.is("one in the buffer, one in each machine", 3, x.inside());
        due.is("room at first", 1, Lines.one(1).buffer(0, 5, 0));
    }

    /** "and a DELAY (0 at first)" */
    private static void delayIsNoughtAtFirst() {
        LineEvents x = Lines.two(5, 5);
        due.is("up to the instant at which one comes", 3, x.run(6));
        due.event(x, 1, 5, 0, 1);
        due.is("the next instant", 1, x.run(1));
        due.event(x, 0, 6, 1, 0);
    }

    /** "stops .. from one instant on, up to another one" */
    private static void rowHoldsFromItsFirstInstantUpToItsEnd() {
        LineEvents x = Lines.one(1);
        x.row(0, 3, 5, 4);
        due.is("before it", 5, x.run(3));
        due.is("time before it", 0, x.time(0, 4));
        due.is("its first instant", 0, x.run(1));
        due.is("time of its first", 1, x.time(0, 4));
        due.is("its last instant", 0, x.run(1));
        due.is("time of its last", 2, x.time(0, 4));
        due.is("the instant of its end", 2, x.run(1));
        due.is("time behind it", 2, x.time(0, 4));

        LineEvents y = Lines.one(1);
        y.row(0, 0, 1, 9);
        due.is("from the first instant of all", 0, y.run(1));
        due.is("one instant alone", 1, y.run(1));
        due.is("its time", 1, y.time(0, 9));
    }

    private static void rowsThatTouch() {
        LineEvents x = Lines.one(1);
        x.row(0, 4, 6, 5);
        x.row(0, 2, 4, 4);
        x.row(0, 6, 7, 6);
        x.run(10);
        due.is("the first", 2, x.time(0, 4));
        due.is("the second", 2, x.time(0, 5));
        due.is("the third", 1, x.time(0, 6));
        due.is("work before and behind", 5, x.time(0, 0));
    }

    /** "stops of one machine" */
    private static void rowOfOneMachineOnly() {
        LineEvents x = Lines.twelve(1);
        x.row(11, 2, 7, 4);
        x.row(0, 3, 9, 5);
        x.run(10);
        for (int m = 0; m < 12; m++) {
            due.is("time of cause 4 of " + m, m == 11 ? 5 : 0, x.time(m, 4));
            due.is("time of cause 5 of " + m, m == 0 ? 6 : 0, x.time(m, 5));
        }
    }

    /** "or of all" */
    private static void rowOfAll() {
        LineEvents x = Lines.twelve(1);
        x.rest(2, 7);
        x.change(8, 1);
        x.run(10);
        for (int m = 0; m < 12; m++) {
            due.is("rest of " + m, 5, x.time(m, 2));
            due.is("change of " + m, 1, x.time(m, 1));
        }
    }

    /** "the machines act once each, in falling order of their numbers" */
    private static void onceEachInFallingOrder() {
        LineEvents x = new LineEvents(0);
        for (int i = 0; i < 12; i++) {
            x.machine(1, -1);
        }
        due.is("each begins one", 12, x.run(1));
        for (int k = 0; k < 12; k++) {
            due.event(x, k, 0, 11 - k, 0);
        }
        due.is("each has one leave and begins one", 24, x.run(1));
        for (int k = 0; k < 12; k++) {
            due.event(x, 2 * k, 1, 11 - k, 1);
            due.event(x, 2 * k + 1, 1, 11 - k, 0);
        }
    }

    /** "the machine stands from this instant on for .. tenths", with the fewest that are not none. */
    private static void faultOfOneTenthEnds() {
        LineEvents x = Lines.one(4);
        x.fault(0, 1, 1, 1);
        x.run(4);
        due.is("it stands", 1, x.run(1));
        due.event(x, 0, 4, 0, 3);
        due.is("its time", 1, x.time(0, 3));
        due.is("it has ended", 2, x.run(1));
        due.event(x, 0, 5, 0, 1);
        due.is("no more time", 1, x.time(0, 3));
    }

    /** "the machine stands from this instant on for .. tenths", with the most. */
    private static void longestFaultEnds() {
        LineEvents x = Lines.one(1);
        x.fault(0, 1, 1, 100_000);
        x.run(1);
        due.is("it stands, and no more", 1, x.run(100_000));
        due.event(x, 0, 1, 0, 3);
        due.is("its time", 100_000, x.time(0, 3));
        due.is("none left in it", 0, x.made());
        due.is("it has ended", 2, x.run(1));
        due.event(x, 0, 100_001, 0, 1);
        due.is("its time behind", 100_000, x.time(0, 3));
    }

    /** "STANDS when a row holds for it, or a fault of it has not ended: then it does nothing" */
    private static void faultAndRowTogether() {
        LineEvents x = Lines.one(2);
        x.fault(0, 1, 1, 4);
        x.row(0, 4, 5, 4);
        due.is("takes and stands", 2, x.run(6));
        due.is("the fault's end is not put off by the row", 2, x.run(1));
        due.event(x, 0, 6, 0, 1);
        due.is("fault", 3, x.time(0, 3));
        due.is("row", 1, x.time(0, 4));
    }

    private static void standingEndsWithTheLaterOne() {
        LineEvents same = Lines.one(2);
        same.fault(0, 1, 1, 4);
        same.row(0, 3, 6, 4);
        same.run(6);
        due.is("both end at 6", 2, same.run(1));

        LineEvents row = Lines.one(2);
        row.fault(0, 1, 1, 4);
        row.row(0, 3, 7, 4);
        row.run(6);
        due.is("the row holds at 6", 0, row.run(1));
        due.is("and ends at 7", 2, row.run(1));
        due.is("the fault's time is what the row left", 1, row.time(0, 3));
    }

    /** "a bottle on which it has worked as many tenths as it takes", the fewest. */
    private static void workedOneTenth() {
        LineEvents x = Lines.one(1);
        due.is("begun", 1, x.run(1));
        due.is("not made", 0, x.made());
        due.is("done", 2, x.run(1));
        due.is("made", 1, x.made());
    }

    /** "a bottle on which it has worked as many tenths as it takes", the most. */
    private static void workedMostTenths() {
        LineEvents x = Lines.one(10_000);
        due.is("begun", 1, x.run(10_000));
        due.is("not made", 0, x.made());
        due.is("done", 2, x.run(1));
        due.event(x, 0, 10_000, 0, 1);
        due.is("made", 1, x.made());
    }

    /** A machine that stands when the work is done judges when it stands no more. */
    private static void judgedWhenTheRowIsOver() {
        LineEvents x = Lines.one(3);
        x.row(0, 3, 5, 4);
        due.is("begun", 1, x.run(5));
        due.is("done, at 5", 2, x.run(1));
        due.is("worked all tenths before the row", 4, x.time(0, 0));

        LineEvents y = Lines.one(3);
        y.row(0, 2, 5, 4);
        due.is("begun too", 1, y.run(6));
        due.is("one tenth of work was left", 2, y.run(1));
        due.event(y, 0, 6, 0, 1);
    }

    /**
     * "and which was not judged": machine 0's third bottle waits from 3 to 12 and draws
     * number 3 alone, so that number 4 is machine 1's.
     */
    private static void judgedOnceThoughItStays() {
        long fourth = Drawn.number(0, 4, 1000);
        for (int more = 0; more < 2; more++) {
            LineEvents x = Lines.two(1, 10);
            x.fault(0, 0, 1, 0);
            x.fault(1, fourth + more, 1000, 0);
            x.run(12);
            due.is("not yet judged", 0, x.rejected(1));
            x.run(1);
            due.is("the fourth number", more, x.rejected(1));
            due.is("made", 1 - more, x.made());
        }
    }

    /** "and which was not judged": a fault that always hits makes it stand once for each bottle. */
    private static void judgedOnceThoughItStood() {
        LineEvents x = Lines.one(1);
        x.fault(0, 1, 1, 2);
        x.run(31);
        due.is("each bottle takes three tenths", 10, x.made());
        due.is("two of them by the fault", 20, x.time(0, 3));
    }

    /** A bottle is judged for each machine that works on it. */
    private static void judgedAgainByTheNextMachine() {
        LineEvents x = Lines.two(1, 1);
        x.fault(1, 1, 1, 0);
        x.run(4);
        due.is("by machine 1, at 3", 1, x.rejected(1));
        due.is("none by machine 0", 0, x.rejected(0));
    }

    /** "when it is less than above the fault hits": the number itself, and one more. */
    private static void hitsWhenLessThanAbove() {
        for (long seed : SEEDS) {
            for (long below : BELOWS) {
                long number = Drawn.number(seed, 1, below);
                String what = "seed " + seed + ", below " + below;
                due.is(what + ": not less", 0, rejectedFirst(seed, number, below));
                due.is(what + ": less", 1, rejectedFirst(seed, number + 1, below));
            }
        }
    }

    private static long rejectedFirst(long seed, long above, long below) {
        LineEvents x = new LineEvents(seed);
        x.machine(1, -1);
        due.yes("fault", x.fault(0, above, below, 0));
        x.run(2);
        due.is("made or rejected", 1, x.made() + x.rejected(0));
        return x.rejected(0);
    }

    /** "draws a number 0 .. below - 1": none is less than 0, all are less than below. */
    private static void neverHitsAndAlwaysHits() {
        for (long below : BELOWS) {
            LineEvents never = Lines.one(1);
            never.fault(0, 0, below, 0);
            never.run(5001);
            due.is("0 out of " + below, 5000, never.made());
            LineEvents always = Lines.one(1);
            always.fault(0, below, below, 0);
            always.run(5001);
            due.is(below + " out of " + below, 5000, always.rejected(0));
        }
    }

    /** "each fault, in the order in which they were told, draws a number": the first to the fourth. */
    private static void drawsInTheOrderTold() {
        for (int nth = 1; nth <= 4; nth++) {
            long number = Drawn.number(7, nth, 1000);
            for (int more = 0; more < 2; more++) {
                LineEvents x = new LineEvents(7);
                x.machine(1, -1);
                for (int f = 1; f <= 4; f++) {
                    x.fault(0, f == nth ? number + more : 0, 1000, 5);
                }
                x.run(2);
                due.is("fault " + nth + ", one more: " + more, more, x.time(0, 3));
            }
        }
    }

    /** A fault of no chance draws its number all the same. */
    private static void drawsThoughItCannotHit() {
        long second = Drawn.number(-5, 2, 77);
        for (int more = 0; more < 2; more++) {
            LineEvents x = new LineEvents(-5);
            x.machine(1, -1);
            x.fault(0, 0, 1, 0);
            x.fault(0, second + more, 77, 0);
            x.run(2);
            due.is("the second number", more, x.rejected(0));
        }
    }

    /** A bottle for which there is no fault leaves the row of numbers as it was. */
    private static void noFaultDrawsNothing() {
        long first = Drawn.number(3, 1, 500);
        for (int more = 0; more < 2; more++) {
            LineEvents x = new LineEvents(3);
            x.machine(1, -1);
            x.machine(100, -1);
            x.fault(1, first + more, 500, 0);
            x.run(101);
            due.is("a hundred others before", 100, x.made() - (1 - more));
            due.is("the first number", more, x.rejected(1));
        }
    }

    /** At instant 3 machine 1 draws the third number before machine 0 draws the fourth. */
    private static void oneRowOfNumbersForAllMachines() {
        long third = Drawn.number(11, 3, 1000);
        for (int more = 0; more < 2; more++) {
            LineEvents x = new LineEvents(11);
            x.machine(1, -1);
            x.machine(1, 0);
            x.fault(0, 0, 1, 0);
            x.fault(1, third + more, 1000, 0);
            x.run(4);
            due.is("machine 1 rejects", more, x.rejected(1));
            due.is("or makes", 1 - more, x.made());
        }
    }

    /** "When others hit, and it was not rejected, the machine stands" */
    private static void rejectedThoughAnotherHit() {
        for (int place = 0; place < 4; place++) {
            LineEvents x = Lines.one(1);
            for (int f = 0; f < 4; f++) {
                x.fault(0, 1, 1, f == place ? 0 : 9);
            }
            due.is("fault " + place + " rejects", 3, x.run(2));
            due.event(x, 1, 1, 0, 2);
            due.event(x, 2, 1, 0, 0);
            due.is("it does not stand", 0, x.time(0, 3));
        }
    }

    /**
     * "it is gone, and no more is drawn for it": machine 0 draws at instant 1 up to the fault
     * that rejects, so that machine 1 has the next number at instant 2.
     */
    private static void rejectedDrawsNoMore() {
        for (int rejecting = 1; rejecting <= 4; rejecting++) {
            long next = Drawn.number(0, rejecting + 1, 1000);
            for (int more = 0; more < 2; more++) {
                LineEvents x = Lines.one(1);
                for (int f = 1; f <= 4; f++) {
                    x.fault(0, f == rejecting ? 1 : 0, 1, 0);
                }
                x.machine(2, -1);
                x.fault(1, next + more, 1000, 0);
                x.run(2);
                due.is("fault " + rejecting + " rejects", 1, x.rejected(0));
                x.run(1);
                due.is("the number behind it", more, x.rejected(1));
            }
        }
    }

    /** A rejected bottle does not end the turn: (2) and (3) follow. */
    private static void rejectedAndTakesAtOnce() {
        LineEvents x = Lines.two(1, 1);
        x.fault(1, 1, 1, 0);
        x.run(3);
        due.is("events of instant 3", 4, x.run(1));
        due.event(x, 0, 3, 1, 2);
        due.event(x, 1, 3, 1, 0);
        due.event(x, 2, 3, 0, 1);
        due.event(x, 3, 3, 0, 0);
    }

    /** "for the greatest of their tenths" */
    private static void greatestTenthsInAnyOrder() {
        int[][] orders = {{1, 2, 3}, {1, 3, 2}, {2, 1, 3}, {2, 3, 1}, {3, 1, 2}, {3, 2, 1}, {3, 3, 3}, {1, 1, 3}, {3, 3, 1}};
        for (int[] order : orders) {
            LineEvents x = Lines.one(1);
            for (int tenths : order) {
                x.fault(0, 1, 1, tenths);
            }
            x.fault(0, 0, 1, 9);
            due.is("takes and stands once", 2, x.run(4));
            due.is("leaves and takes", 2, x.run(1));
            due.is("three tenths", 3, x.time(0, 3));
        }
    }

    /** "and that ends its turn": the bottle does not leave, and none is taken. */
    private static void standingEndsTheTurn() {
        LineEvents x = Lines.one(2);
        x.fault(0, 1, 1, 5);
        x.run(2);
        due.is("events of instant 2", 1, x.run(1));
        due.event(x, 0, 2, 0, 3);
        due.is("it has its bottle", 1, x.inside());
        due.is("none is made", 0, x.made());
    }

    /** "comes into the buffer behind, if that has room; else it stays" */
    private static void leavesIfThereIsRoom() {
        for (int room = 1; room <= 4; room++) {
            LineEvents x = Lines.two(1, 1000);
            x.buffer(0, room, 0);
            // Machine 1 takes the first bottle at 2; the buffer is full with the one that leaves at room + 1.
            x.run(room + 1);
            // With room 1 that is the very instant at which machine 1 takes.
            int others = room == 1 ? 1 : 0;
            due.is("room " + room + ": the last that leaves", others + 2, x.run(1));
            due.event(x, others, room + 1, 0, 1);
            due.is("room " + room + ": inside", room + 2, x.inside());
            due.is("room " + room + ": the first that stays", 0, x.run(1));
            due.is("room " + room + ": could not leave", 1, x.time(0, 11));
            due.is("room " + room + ": inside still", room + 2, x.inside());
        }
    }

    /** The same with the largest room. */
    private static void largestRoom() {
        LineEvents x = Lines.two(1, 10_000);
        x.buffer(0, 1000, 0);
        x.run(1001);
        due.is("the last that leaves", 2, x.run(1));
        due.is("inside", 1002, x.inside());
        due.is("the first that stays", 0, x.run(1));
        due.is("inside still", 1002, x.inside());
        due.is("could not leave", 1, x.time(0, 11));
        due.yes("kept", x.kept());
    }

    /** A place that the higher machine frees is there for the lower one at the same instant. */
    private static void roomFreedAtTheSameInstant() {
        LineEvents x = Lines.two(1, 5);
        x.run(7);
        due.is("full at 6", 3, x.inside());
        due.is("all go on at 7", 4, x.run(1));
        due.event(x, 0, 7, 1, 1);
        due.event(x, 1, 7, 1, 0);
        due.event(x, 2, 7, 0, 1);
        due.event(x, 3, 7, 0, 0);
    }

    /** "if that came at an earlier instant": a delay of none is the same as one of one tenth. */
    private static void takenAtAnEarlierInstantOnly() {
        for (int delay = 0; delay < 2; delay++) {
            LineEvents x = Lines.two(3, 1);
            x.buffer(0, 1, delay);
            due.is("none is taken at the instant at which it comes", 3, x.run(4));
            due.event(x, 1, 3, 0, 1);
            due.is("but at the next", 1, x.run(1));
            due.event(x, 0, 4, 1, 0);
        }
    }

    /** "and at least as many tenths ago as the delay" */
    private static void takenBehindTheDelay() {
        for (int delay = 2; delay <= 9; delay++) {
            LineEvents x = Lines.two(10, 1);
            x.buffer(0, 1, delay);
            due.is("delay " + delay + ": one comes at 10", 3, x.run(10 + delay));
            due.is("delay " + delay + ": it waits", 10 + delay, x.time(1, 10));
            due.is("delay " + delay + ": it is taken", 1, x.run(1));
            due.event(x, 0, 10 + delay, 1, 0);
        }
    }

    /** The same with the longest delay. */
    private static void longestDelay() {
        LineEvents x = Lines.two(10_000, 1);
        x.buffer(0, 1, 10_000);
        due.is("one comes at 10,000", 3, x.run(20_000));
        due.is("one is taken at 20,000", 3, x.run(1));
        due.event(x, 0, 20_000, 1, 0);
        due.event(x, 1, 20_000, 0, 1);
        due.event(x, 2, 20_000, 0, 0);
    }

    /** The buffer's places are used again and again, and each bottle keeps its own delay. */
    private static void delayOfEachBottleInARing() {
        for (int room : new int[] {1, 2, 7, 999, 1000}) {
            int takes = 3;
            int delay = takes * room - 1;
            LineEvents x = Lines.two(takes, 1);
            x.buffer(0, room, delay);
            // Bottle b comes at 3b (b from 1), is taken a delay later and made one tenth behind that.
            int now = 0;
            for (int part = 1; part <= 40; part++) {
                int instants = room * 2 + part % 4;
                x.run(instants);
                now += instants;
                long made = Math.max(0, (now - 1 - 1 - delay) / takes);
                long begun = 1 + (now - 1) / takes;
                due.is("room " + room + ": made at " + now, made, x.made());
                due.is("room " + room + ": inside at " + now, begun - made, x.inside());
                due.is("room " + room + ": none waits for room", 0, x.time(0, 11));
            }
        }
    }

    /** "10 when it has none": there is nothing to take. */
    private static void takesNoneFromAnEmptyBuffer() {
        LineEvents x = Lines.two(1, 1);
        x.row(0, 0, 50, 4);
        due.is("no events", 0, x.run(50));
        due.is("nothing inside", 0, x.inside());
        due.is("machine 1 has none", 50, x.time(1, 10));
        x.run(2);
        due.is("none up to the instant at which one comes", 52, x.time(1, 10));
        due.is("it takes that", 3, x.run(1));
        due.is("it has one", 52, x.time(1, 10));
    }

    /** "that of the row that was told first of those that hold for it" */
    private static void causeOfTheRowToldFirst() {
        LineEvents x = Lines.one(1);
        x.row(0, 2, 4, 9);
        x.row(0, 1, 3, 4);
        x.row(0, 0, 6, 5);
        int[] causes = {5, 4, 9, 9, 5, 5, 0};
        for (int instant = 0; instant < causes.length; instant++) {
            long before = x.time(0, causes[instant]);
            x.run(1);
            due.is("cause of tenth " + instant, before + 1, x.time(0, causes[instant]));
        }
        LineEvents y = Lines.one(1);
        y.row(0, 0, 6, 5);
        y.row(0, 1, 3, 4);
        y.run(6);
        due.is("told first, though it began first too", 6, y.time(0, 5));
        due.is("told later", 0, y.time(0, 4));
    }

    /** "else 3 when a fault of it has not ended" */
    private static void causeOfFaultBehindRow() {
        LineEvents x = Lines.one(1);
        x.fault(0, 1, 1, 6);
        x.row(0, 3, 5, 7);
        int[] causes = {0, 3, 3, 7, 7, 3, 3, 0, 3};
        for (int instant = 0; instant < causes.length; instant++) {
            long before = x.time(0, causes[instant]);
            x.run(1);
            due.is("cause of tenth " + instant, before + 1, x.time(0, causes[instant]));
        }
    }

    /** "else 0 when it works on a bottle; 11 when it has one that could not leave; 10 when it has none" */
    private static void causeOfWorkAndWaiting() {
        LineEvents x = Lines.two(2, 7);
        int[] ofFirst = {0, 0, 0, 0, 0, 0, 11, 11, 11, 11, 0, 0, 11};
        int[] ofSecond = {10, 10, 10, 0, 0, 0, 0, 0, 0, 0, 0, 0, 0};
        for (int instant = 0; instant < ofFirst.length; instant++) {
            long first = x.time(0, ofFirst[instant]);
            long second = x.time(1, ofSecond[instant]);
            x.run(1);
            due.is("first in tenth " + instant, first + 1, x.time(0, ofFirst[instant]));
            due.is("second in tenth " + instant, second + 1, x.time(1, ofSecond[instant]));
        }
    }

    /** "x becomes x * .. + .. (64 bits), the number is (x >>> 33) modulo below; x is the seed at first" */
    private static void seedsOfAllSizes() {
        for (long seed : SEEDS) {
            LineEvents x = new LineEvents(seed);
            x.machine(1, -1);
            x.fault(0, 333_333, 1_000_000, 0);
            x.run(1);
            long rejected = 0;
            for (int bottle = 1; bottle <= 100; bottle++) {
                if (Drawn.number(seed, bottle, 1_000_000) < 333_333) {
                    rejected++;
                }
                x.run(1);
                due.is("seed " + seed + ", bottle " + bottle, rejected, x.rejected(0));
            }
        }
        due.is("the first number of seed 0", (1442695040888963407L >>> 33) % 1000, Drawn.number(0, 1, 1000));
    }
}
