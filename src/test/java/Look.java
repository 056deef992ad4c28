/** All that the calls tell of an object's state without changing it, as one text. */
final class Look {
    private static final int EVENTS = 40;

    private Look() { }

    /** About 200 calls for three machines; an object is promised for 512. */
    static String at(LineEvents x, int machines) {
        StringBuilder text = new StringBuilder();
        text.append("made ").append(x.made()).append(" inside ").append(x.inside()).append(" kept ").append(x.kept());
        for (int m = 0; m < machines; m++) {
            text.append("\n machine ").append(m).append(": rejected ").append(x.rejected(m)).append(", times");
            for (int cause = 0; cause <= 11; cause++) {
                text.append(' ').append(x.time(m, cause)).append('/').append(x.lost(m, cause));
            }
        }
        text.append("\n events");
        for (int k = 0; k < EVENTS; k++) {
            text.append(' ').append(x.event(k, 0)).append('/').append(x.event(k, 1)).append('/').append(x.event(k, 2));
        }
        return text.toString();
    }
}
