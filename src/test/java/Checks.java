import java.util.Arrays;

/** What is due of checks with rows of kind 1. */
final class Checks {
    private final Due due;

    Checks(Due due) {
        this.due = due;
    }

    /** Checks segments between a header and a trailer that fit. */
    SegmentForms checked(int answer, int segment, int row, String rows, String between) {
        SegmentForms x = Forms.withMessage(Forms.framed(1, between));
        Forms.rows(x, 1, rows);
        String when = between + " with " + rows;
        due.is(answer, "check() of " + when, x.check());
        faults(x, when, answer, segment, row);
        return x;
    }

    void faults(SegmentForms x, String when, int answer, int segment, int row) {
        due.is(answer, "fault(0) of " + when, x.fault(0));
        due.is(segment, "fault(1) of " + when, x.fault(1));
        due.is(row, "fault(2) of " + when, x.fault(2));
    }

    /** The row and the segment above of each segment in turn. */
    void walked(SegmentForms x, int... rowsAndAboves) {
        for (int i = 0; i < rowsAndAboves.length; i++) {
            int segment = i / 2;
            int what = 2 + i % 2;
            due.is(rowsAndAboves[i], "segment(" + segment + ", " + what + ")",
                    x.segment(segment, what));
        }
    }

    static int[] noneOf(int segments) {
        int[] none = new int[2 * segments];
        Arrays.fill(none, -1);
        return none;
    }
}
