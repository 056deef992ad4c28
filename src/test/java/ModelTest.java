import java.util.Random;

/**
 * Runs of calls made by chance (always the same ones): LineEvents answers as PlainLine does.
 * Behind each run the whole state is looked at, so an object is asked more than the 512 times
 * for which the document promises answers.
 */
public final class ModelTest {
    private static final int OBJECTS = 3000;
    private static final int CALLS = 512;
    private static final int[] ODD = {
        Integer.MIN_VALUE, -2, -1, 0, 1, 2, 3, 4, 9, 10, 11, 12, 13, 64, 999, 1000, 1001, 10_000, 10_001,
        100_000, 100_001, 1_000_000, 1_000_001, 999_999_999, 1_000_000_000, 1_000_000_001, Integer.MAX_VALUE
    };

    private final Random chance;
    private final LineEvents line;
    private final PlainLine plain;
    private final Due due = new Due();
    private final int number;
    /** The greatest tenths that are usual in this object. */
    private final int slow;
    private int call;

    private ModelTest(int number) {
        this.number = number;
        chance = new Random(number);
        slow = new int[] {1, 3, 10, 60, 400}[chance.nextInt(5)];
        long seed = chance.nextInt(4) == 0 ? chance.nextInt(3) - 1 : chance.nextLong();
        line = new LineEvents(seed);
        plain = new PlainLine(seed);
    }

    public static void main(String[] args) {
        Due all = new Due();
        for (int i = 0; i < OBJECTS && all.wrongCount() == 0; i++) {
            all.is("wrong answers of object " + i, 0, new ModelTest(i).wrongAnswers());
        }
        all.end();
    }

    private int wrongAnswers() {
        int built = 1 + chance.nextInt(number % 4 == 0 ? 250 : 40);
        int runs = 0;
        for (call = 0; call < CALLS && due.wrongCount() == 0; call++) {
            if (call < built) {
                build();
            } else if (chance.nextInt(12) == 0 && runs < 25) {
                runs++;
                run();
            } else if (chance.nextInt(10) == 0) {
                build();
            } else {
                ask();
            }
        }
        return due.wrongCount();
    }

    private void is(String what, long want, long got) {
        due.is("object " + number + ", call " + call + ": " + what, want, got);
    }

    private void is(String what, boolean want, boolean got) {
        is(what, want ? 1 : 0, got ? 1 : 0);
    }

    /** Mostly a usual number, 0 to most, now and then an odd one. */
    private int any(int most) {
        return chance.nextInt(25) == 0 ? ODD[chance.nextInt(ODD.length)] : chance.nextInt(most + 1);
    }

    private int anyMachine() {
        return any(5);
    }

    private int anyInstant() {
        return plain.instant() + any(20 * slow) - (chance.nextInt(10) == 0 ? 1 : 0);
    }

    private void build() {
        switch (chance.nextInt(7)) {
            case 0, 1 -> {
                int tenths = any(slow);
                int after = any(8) - 1;
                is("machine(" + tenths + ", " + after + ")", plain.machine(tenths, after), line.machine(tenths, after));
            }
            case 2 -> {
                int m = anyMachine();
                int room = any(6);
                int delay = any(2 * slow);
                is("buffer(" + m + ", " + room + ", " + delay + ")",
                    plain.buffer(m, room, delay), line.buffer(m, room, delay));
            }
            case 3 -> {
                int m = anyMachine();
                long above = any(3);
                long below = any(20);
                int tenths = chance.nextInt(3) == 0 ? 0 : any(4 * slow);
                is("fault(" + m + ", " + above + ", " + below + ", " + tenths + ")",
                    plain.fault(m, above, below, tenths), line.fault(m, above, below, tenths));
            }
            case 4 -> {
                int m = anyMachine();
                int from = anyInstant();
                int to = from + any(10 * slow);
                int cause = 3 + any(7);
                is("row(" + m + ", " + from + ", " + to + ", " + cause + ")",
                    plain.row(m, from, to, cause), line.row(m, from, to, cause));
            }
            case 5 -> {
                int from = anyInstant();
                int tenths = any(5 * slow);
                is("change(" + from + ", " + tenths + ")", plain.change(from, tenths), line.change(from, tenths));
            }
            default -> {
                int from = anyInstant();
                int to = from + any(5 * slow);
                is("rest(" + from + ", " + to + ")", plain.rest(from, to), line.rest(from, to));
            }
        }
    }

    private void run() {
        int tenths = any(30 * slow);
        // The plain line is slow: the longest runs are only for some objects.
        if (tenths > 20_000 && tenths <= 100_000 && number % 50 != 0) {
            tenths = 2_000;
        }
        is("run(" + tenths + ")", plain.run(tenths), line.run(tenths));
        is("made", plain.made(), line.made());
        is("inside", plain.inside(), line.inside());
        is("kept", plain.kept(), line.kept());
        for (int k = 0; k < 60; k++) {
            for (int what = 0; what < 3; what++) {
                is("event(" + k + ", " + what + ")", plain.event(k, what), line.event(k, what));
            }
        }
        for (int m = 0; m < 12; m++) {
            for (int cause = 0; cause < 12; cause++) {
                askTime(m, cause);
            }
        }
    }

    private void askTime(int m, int cause) {
        is("time(" + m + ", " + cause + ")", plain.time(m, cause), Due.answer(() -> line.time(m, cause)));
    }

    private void ask() {
        switch (chance.nextInt(7)) {
            case 0, 1 -> {
                int k = any(1000);
                int what = any(3);
                is("event(" + k + ", " + what + ")", plain.event(k, what), line.event(k, what));
            }
            case 2 -> is("made()", plain.made(), line.made());
            case 3 -> is("inside()", plain.inside(), line.inside());
            case 4 -> {
                int m = anyMachine();
                int cause = any(12);
                is("lost(" + m + ", " + cause + ")", plain.lost(m, cause), Due.answer(() -> line.lost(m, cause)));
            }
            case 5 -> {
                int m = anyMachine();
                is("rejected(" + m + ")", plain.rejected(m), Due.answer(() -> line.rejected(m)));
            }
            default -> askTime(anyMachine(), any(12));
        }
    }
}
