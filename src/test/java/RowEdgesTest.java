/** Promises 5, 12 and 13: each sentence that names a boundary has a test of its own. */
public final class RowEdgesTest {
    private static final int LAST = 1_000_000_000;
    private static final int MIN = Integer.MIN_VALUE;
    private static final int MAX = Integer.MAX_VALUE;
    private static final Due due = new Due();

    public static void main(String[] args) {
        rowUpToAnotherInstantNotWithIt();
        rowCauses();
        rowOfNoMachine();
        rowFromHasCome();
        rowToIsNotAboveFrom();
        rowToTheLastInstant();
        rowSixtyFourthAndNextOne();
        rowRefusedNeverHolds();
        rowRefusedIsNotCounted();
        rowToldWhileOneHolds();
        changeTenths();
        changeHoldsForItsTenths();
        changeFromHasCome();
        changeEndsAtTheLastInstant();
        changeWrapsNot();
        changeSixtyFourthAndNextOne();
        changeRefusedNeverHolds();
        changeRefusedIsNotCounted();
        restUpToAnotherInstantNotWithIt();
        restFromHasCome();
        restToIsNotAboveFrom();
        restToTheLastInstant();
        restSixtyFourthAndNextOne();
        restRefusedNeverHolds();
        restRefusedIsNotCounted();
        rowsOfAllKindsAreCountedTogether();
        rowsThatAreOverAreCounted();
        rowsOfAllHoldForMachinesToldLater();
        sixtyFourRowsHold();
        due.end();
    }

    // ---- Promise 5

    /** "a machine stands from an instant on, up to another one (not with it)" */
    private static void rowUpToAnotherInstantNotWithIt() {
        for (int tenths = 1; tenths <= 3; tenths++) {
            LineEvents x = Lines.one(1);
            due.yes("row", x.row(0, 7, 7 + tenths, 6));
            due.is("up to 6 it works", 13, x.run(7));
            due.is("no events while it stands", 0, x.run(tenths));
            due.is("its time", tenths, x.time(0, 6));
            due.is("with the last one it works", 2, x.run(1));
            due.event(x, 0, 7 + tenths, 0, 1);
            due.is("its time still", tenths, x.time(0, 6));
        }
    }

    /** "by a cause 4 to 9", "False .. for another cause" */
    private static void rowCauses() {
        for (int cause = 4; cause <= 9; cause++) {
            LineEvents x = Lines.one(1);
            due.yes("cause " + cause, x.row(0, 1, 3, cause));
            x.run(5);
            for (int other = 1; other < 12; other++) {
                due.is("time of " + other, other == cause ? 2 : 0, x.time(0, other));
            }
        }
        for (int cause : new int[] {3, 2, 1, 0, -1, 10, 11, 12, MIN, MAX}) {
            due.no("cause " + cause, Lines.one(1).row(0, 1, 3, cause));
        }
    }

    /** "False, refused, when there is no such machine": -1 is none either, though rows of all are told elsewhere. */
    private static void rowOfNoMachine() {
        LineEvents x = Lines.two(1, 1);
        for (int m : new int[] {-1, -2, 2, 3, 11, 12, MIN, MAX}) {
            due.no("row of " + m, x.row(m, 1, 3, 4));
        }
        due.yes("of the first", x.row(0, 1, 3, 4));
        due.yes("of the last", x.row(1, 1, 3, 4));
        due.no("of the first one of an empty line", new LineEvents(0).row(0, 1, 3, 4));
        LineEvents full = Lines.twelve(1);
        due.yes("of the twelfth", full.row(11, 1, 3, 4));
        due.no("of the thirteenth", full.row(12, 1, 3, 4));
    }

    /** "from has come" */
    private static void rowFromHasCome() {
        LineEvents x = Lines.one(1);
        due.no("before all instants", x.row(0, -1, 5, 4));
        due.no("long before", x.row(0, MIN, 5, 4));
        due.yes("the first of all", x.row(0, 0, 1, 4));
        x.run(1);
        due.no("it has come", x.row(0, 0, 5, 4));
        due.yes("the next one has not", x.row(0, 1, 2, 4));
        x.run(99);
        due.no("the one that came last", x.row(0, 99, 200, 4));
        due.no("one in between", x.row(0, 50, 200, 4));
        due.no("the first of all has come", x.row(0, 0, 200, 4));
        due.yes("the one that comes next", x.row(0, 100, 200, 4));
        due.yes("a later one", x.row(0, 101, 200, 4));
        x.run(0);
        due.yes("still it comes next", x.row(0, 100, 200, 4));
    }

    /** "to is not above it" */
    private static void rowToIsNotAboveFrom() {
        LineEvents x = Lines.one(1);
        due.no("to is from", x.row(0, 5, 5, 4));
        due.no("to is one below", x.row(0, 5, 4, 4));
        due.no("to is 0, and from", x.row(0, 0, 0, 4));
        due.no("to is below 0", x.row(0, 0, -1, 4));
        due.no("to is far below", x.row(0, 5, MIN, 4));
        due.no("the greatest from", x.row(0, MAX, MAX, 4));
        due.no("the greatest from, the least to", x.row(0, MAX, MIN, 4));
        due.yes("to is one above", x.row(0, 5, 6, 4));
    }

    /** "or above 1,000,000,000" */
    private static void rowToTheLastInstant() {
        LineEvents x = Lines.one(1);
        due.no("above it", x.row(0, 0, LAST + 1, 4));
        due.no("far above it", x.row(0, 0, MAX, 4));
        due.no("from and to at it", x.row(0, LAST, LAST, 4));
        due.no("from at it", x.row(0, LAST, LAST + 1, 4));
        due.no("from above it", x.row(0, LAST + 1, LAST + 2, 4));
        due.yes("up to it", x.row(0, LAST - 1, LAST, 4));
        due.yes("up to one before it", x.row(0, LAST - 2, LAST - 1, 4));
        due.yes("from 0 up to it", x.row(0, 0, LAST, 5));
        x.run(100_000);
        due.is("the longest row holds", 100_000, x.time(0, 5));
    }

    /** "ROWS, at most 64", "or when there are 64 rows" */
    private static void rowSixtyFourthAndNextOne() {
        LineEvents x = Lines.two(1, 1);
        for (int i = 1; i <= 64; i++) {
            due.yes("row " + i, x.row(i % 2, i, i + 1, 4));
        }
        due.no("the 65th", x.row(0, 65, 66, 4));
        due.no("the 65th, of another machine", x.row(1, 70, 80, 9));
        x.run(65);
        due.no("behind a run too", x.row(0, 65, 66, 4));
        due.is("32 of them are the first's", 32, x.time(0, 4));
        due.is("32 of them are the second's", 32, x.time(1, 4));
    }

    /** "refused": it never holds. */
    private static void rowRefusedNeverHolds() {
        LineEvents x = Lines.one(1);
        x.row(0, 2, 8, 3);
        x.row(0, 2, 8, 10);
        x.row(-1, 2, 8, 4);
        x.row(1, 2, 8, 4);
        x.row(0, -1, 8, 4);
        x.row(0, 5, 5, 4);
        x.row(0, 5, 2, 4);
        x.row(0, 2, LAST + 1, 4);
        due.is("all instants are its own", 19, x.run(10));
        x.row(0, 9, 15, 4);
        due.is("behind a run too", 20, x.run(10));
        due.is("all its time is work", 20, x.time(0, 0));
    }

    /** "refused": it is not one of the 64. */
    private static void rowRefusedIsNotCounted() {
        LineEvents x = Lines.one(1);
        x.run(1);
        for (int i = 1; i <= 64; i++) {
            x.row(0, 0, 5, 4);
            x.row(0, 5, 5, 4);
            x.row(0, 5, LAST + 1, 4);
            x.row(0, 5, 6, 3);
            x.row(1, 5, 6, 4);
            due.yes("row " + i, x.row(0, 5, 6, 4));
        }
        due.no("the 65th", x.row(0, 5, 6, 4));
    }

    /** One that is told behind a run holds from the next instant on, whatever holds then. */
    private static void rowToldWhileOneHolds() {
        LineEvents x = Lines.one(1);
        x.row(0, 3, 6, 4);
        x.run(5);
        due.yes("told while one holds", x.row(0, 5, 8, 5));
        x.run(1);
        due.is("the one that was told first", 3, x.time(0, 4));
        due.is("not yet", 0, x.time(0, 5));
        due.is("the second holds on", 0, x.run(2));
        due.is("its time", 2, x.time(0, 5));
        due.is("both are over", 2, x.run(1));
        due.yes("told before a later one", x.row(0, 20, 30, 6));
        due.yes("one that comes before it", x.row(0, 10, 12, 7));
        x.run(30);
        due.is("time of the later one", 10, x.time(0, 6));
        due.is("time of the earlier one", 2, x.time(0, 7));
    }

    // ---- Promise 12

    /** "for so many tenths (1 to 1,000,000)", "False .. for other tenths" */
    private static void changeTenths() {
        for (int tenths : new int[] {0, -1, 1_000_001, 1_000_002, MIN, MAX}) {
            due.no("change of " + tenths, Lines.one(1).change(5, tenths));
        }
        for (int tenths : new int[] {1, 2, 999_999, 1_000_000}) {
            due.yes("change of " + tenths, Lines.one(1).change(5, tenths));
        }
    }

    private static void changeHoldsForItsTenths() {
        LineEvents x = Lines.two(1, 1);
        x.change(1, 1);
        due.is("instant 0", 1, x.run(1));
        due.is("instant 1", 0, x.run(1));
        due.is("instant 2", 2, x.run(1));
        due.is("first", 1, x.time(0, 1));
        due.is("second", 1, x.time(1, 1));

        LineEvents longest = Lines.one(1);
        longest.change(1, 1_000_000);
        longest.run(1);
        for (int i = 0; i < 10; i++) {
            due.is("part " + i, 0, longest.run(100_000));
        }
        due.is("all of it", 1_000_000, longest.time(0, 1));
        due.is("then it is over", 2, longest.run(1));
        due.event(longest, 0, 1_000_001, 0, 1);
        due.is("and no more", 1_000_000, longest.time(0, 1));
    }

    /** "False, refused, when from has come" */
    private static void changeFromHasCome() {
        LineEvents x = new LineEvents(0);
        due.no("before all instants", x.change(-1, 5));
        due.no("long before", x.change(MIN, 5));
        due.no("long before, of most tenths", x.change(MIN, 1_000_000));
        due.yes("the first of all", x.change(0, 5));
        x.run(10);
        due.no("the one that came last", x.change(9, 5));
        due.no("the first of all has come", x.change(0, 100));
        due.yes("the one that comes next", x.change(10, 5));
    }

    /** "it would end above 1,000,000,000" */
    private static void changeEndsAtTheLastInstant() {
        LineEvents x = new LineEvents(0);
        for (int tenths : new int[] {1, 2, 1000, 999_999, 1_000_000}) {
            due.no("above it by " + tenths, x.change(LAST - tenths + 1, tenths));
            due.yes("at it by " + tenths, x.change(LAST - tenths, tenths));
        }
        due.no("from the last on", x.change(LAST, 1));
        due.no("from behind it", x.change(LAST + 1, 1));
    }

    /** The sum of from and tenths is too great for an int, and yet above. */
    private static void changeWrapsNot() {
        LineEvents x = Lines.one(1);
        due.no("the greatest, of one", x.change(MAX, 1));
        due.no("the greatest, of most", x.change(MAX, 1_000_000));
        due.no("just above the greatest", x.change(MAX - 999_999, 1_000_000));
        due.no("just the greatest", x.change(MAX - 1_000_000, 1_000_000));
        due.no("both the greatest", x.change(MAX, MAX));
        due.no("both the least", x.change(MIN, MIN));
        due.no("the least sum above 0", x.change(MIN, MAX));
        x.run(10);
        due.is("none holds", 10, x.time(0, 0));
    }

    /** "or when there are 64 rows" */
    private static void changeSixtyFourthAndNextOne() {
        LineEvents x = Lines.one(1);
        for (int i = 1; i <= 64; i++) {
            due.yes("change " + i, x.change(i, 1));
        }
        due.no("the 65th", x.change(65, 1));
        due.is("the first and the others' first", 1, x.run(65));
        due.is("64 hold", 64, x.time(0, 1));
        due.is("the 65th does not", 2, x.run(1));
    }

    /** "refused": it never holds. */
    private static void changeRefusedNeverHolds() {
        LineEvents x = Lines.one(1);
        x.change(2, 0);
        x.change(2, 1_000_001);
        x.change(2, -1);
        x.change(-1, 8);
        due.is("all instants are its own", 19, x.run(10));
        x.change(9, 5);
        due.is("behind a run too", 20, x.run(10));
        due.is("no time goes to it", 0, x.time(0, 1));
    }

    /** "refused": it is not one of the 64. */
    private static void changeRefusedIsNotCounted() {
        LineEvents x = new LineEvents(0);
        x.run(1);
        for (int i = 1; i <= 64; i++) {
            x.change(0, 5);
            x.change(5, 0);
            x.change(5, 1_000_001);
            x.change(LAST, 1);
            due.yes("change " + i, x.change(5, 1));
        }
        due.no("the 65th", x.change(5, 1));
    }

    // ---- Promise 13

    /** "from an instant on, up to another one" */
    private static void restUpToAnotherInstantNotWithIt() {
        for (int tenths = 1; tenths <= 3; tenths++) {
            LineEvents x = Lines.one(1);
            x.machine(1, -1);
            due.yes("rest", x.rest(7, 7 + tenths));
            due.is("up to 6 they work", 26, x.run(7));
            due.is("no events while they stand", 0, x.run(tenths));
            due.is("with the last one they work", 4, x.run(1));
            due.is("time of the first", tenths, x.time(0, 2));
            due.is("time of the second", tenths, x.time(1, 2));
        }
    }

    /** "False, refused, when from has come" */
    private static void restFromHasCome() {
        LineEvents x = new LineEvents(0);
        due.no("before all instants", x.rest(-1, 5));
        due.no("long before", x.rest(MIN, 5));
        due.yes("the first of all", x.rest(0, 5));
        x.run(10);
        due.no("the one that came last", x.rest(9, 20));
        due.no("the first of all has come", x.rest(0, 20));
        due.yes("the one that comes next", x.rest(10, 20));
    }

    /** "to is not above it" */
    private static void restToIsNotAboveFrom() {
        LineEvents x = new LineEvents(0);
        due.no("to is from", x.rest(5, 5));
        due.no("to is one below", x.rest(5, 4));
        due.no("to is 0, and from", x.rest(0, 0));
        due.no("to is far below", x.rest(5, MIN));
        due.no("the greatest", x.rest(MAX, MAX));
        due.yes("to is one above", x.rest(5, 6));
        due.yes("the first tenth", x.rest(0, 1));
    }

    /** "or above 1,000,000,000" */
    private static void restToTheLastInstant() {
        LineEvents x = Lines.one(1);
        due.no("above it", x.rest(0, LAST + 1));
        due.no("far above it", x.rest(0, MAX));
        due.no("from at it", x.rest(LAST, LAST + 1));
        due.no("from and to at it", x.rest(LAST, LAST));
        due.yes("up to it", x.rest(LAST - 1, LAST));
        due.yes("from 0 up to it", x.rest(0, LAST));
        due.is("the longest rest", 0, x.run(100_000));
        due.is("its time", 100_000, x.time(0, 2));
    }

    /** "or when there are 64 rows" */
    private static void restSixtyFourthAndNextOne() {
        LineEvents x = Lines.one(1);
        for (int i = 1; i <= 64; i++) {
            due.yes("rest " + i, x.rest(i, i + 1));
        }
        due.no("the 65th", x.rest(65, 66));
        due.is("the first instant's", 1, x.run(65));
        due.is("64 hold", 64, x.time(0, 2));
        due.is("the 65th does not", 2, x.run(1));
    }

    /** "refused": it never holds. */
    private static void restRefusedNeverHolds() {
        LineEvents x = Lines.one(1);
        x.rest(2, 2);
        x.rest(5, 2);
        x.rest(-1, 8);
        x.rest(2, LAST + 1);
        due.is("all instants are its own", 19, x.run(10));
        x.rest(9, 15);
        due.is("behind a run too", 20, x.run(10));
        due.is("no time goes to it", 0, x.time(0, 2));
    }

    /** "refused": it is not one of the 64. */
    private static void restRefusedIsNotCounted() {
        LineEvents x = new LineEvents(0);
        x.run(1);
        for (int i = 1; i <= 64; i++) {
            x.rest(0, 5);
            x.rest(5, 5);
            x.rest(5, LAST + 1);
            due.yes("rest " + i, x.rest(5, 6));
        }
        due.no("the 65th", x.rest(5, 6));
    }

    // ---- all of them

    /** "when there are 64 rows": those of one machine and those of all, of either kind. */
    private static void rowsOfAllKindsAreCountedTogether() {
        for (int last = 0; last < 3; last++) {
            LineEvents x = Lines.one(1);
            for (int i = 0; i < 63; i++) {
                due.yes("row " + i, told(x, i % 3));
            }
            due.yes("the 64th", told(x, last));
            for (int kind = 0; kind < 3; kind++) {
                due.no("the 65th, of kind " + kind, told(x, kind));
            }
        }
    }

    private static boolean told(LineEvents x, int kind) {
        switch (kind) {
            case 0:
                return x.row(0, 5, 6, 4);
            case 1:
                return x.change(5, 1);
            default:
                return x.rest(5, 6);
        }
    }

    /** "when there are 64 rows": none goes away when it is over. */
    private static void rowsThatAreOverAreCounted() {
        LineEvents x = Lines.one(1);
        for (int i = 0; i < 64; i++) {
            x.rest(i, i + 1);
        }
        x.run(1000);
        due.no("row", x.row(0, 1000, 1001, 4));
        due.no("change", x.change(1000, 1));
        due.no("rest", x.rest(1000, 1001));
    }

    /** "A row of all machines": of those too that are told behind it. */
    private static void rowsOfAllHoldForMachinesToldLater() {
        LineEvents x = new LineEvents(0);
        x.rest(0, 2);
        x.machine(1, -1);
        x.change(2, 3);
        x.machine(1, 0);
        due.is("all stand", 0, x.run(5));
        for (int m = 0; m < 2; m++) {
            due.is("rest of " + m, 2, x.time(m, 2));
            due.is("change of " + m, 3, x.time(m, 1));
        }
    }

    /** As many rows as there may be hold at once: the first one told gives the cause. */
    private static void sixtyFourRowsHold() {
        LineEvents x = Lines.one(1);
        for (int i = 0; i < 64; i++) {
            x.row(0, 63 - i, 64 - i + i % 2, 4 + i % 6);
        }
        // Row i holds at 63 - i, and at 64 - i too when i is odd, but row i - 1 was told before it.
        due.is("no instant is left", 0, x.run(64));
        for (int cause = 4; cause <= 9; cause++) {
            due.is("time of " + cause, cause < 8 ? 11 : 10, x.time(0, cause));
        }
        due.is("then it works", 1, x.run(1));
    }
}
