/** Lines of machines that several tests use. */
final class Lines {
    private Lines() { }

    /** One machine, behind none. */
    static LineEvents one(int tenths) {
        LineEvents x = new LineEvents(0);
        x.machine(tenths, -1);
        return x;
    }

    /** Two machines, the second behind the first. */
    static LineEvents two(int first, int second) {
        LineEvents x = one(first);
        x.machine(second, 0);
        return x;
    }

    /** As many machines as there may be, each behind the one before it. */
    static LineEvents twelve(int tenths) {
        LineEvents x = new LineEvents(0);
        for (int i = 0; i < 12; i++) {
            x.machine(tenths, i - 1);
        }
        return x;
    }

    /** Three machines with all that a line may have: buffers, both kinds of faults, all kinds of rows. */
    static LineEvents busy() {
        LineEvents x = new LineEvents(99);
        x.machine(7, -1);
        x.machine(5, 0);
        x.machine(6, 1);
        x.buffer(0, 3, 11);
        x.buffer(1, 2, 0);
        x.fault(0, 1, 10, 0);
        x.fault(1, 1, 20, 80);
        x.fault(2, 1, 30, 40);
        x.row(1, 300, 420, 8);
        x.rest(1000, 1500);
        x.change(1400, 300);
        return x;
    }
}
