/** Promise 7: tag, elements, row and the segment above of a segment. */
public final class Promise07SegmentTest {
    private static final Due due = new Due("Promise07SegmentTest");

    public static void main(String[] args) {
        tagsAndElements();
        rowsAndAboves();
        notWalkedOver();
        byTheLastCheck();
        wrongArguments();
        due.end();
    }

    private static void tagsAndElements() {
        SegmentForms x = Forms.withMessage("UNH+r+1'A0Z'Z9A++'BGM" + "+:*".repeat(20) + "'");
        due.is(5590600, "segment(0, 0)", x.segment(0, 0));
        due.is(65536 * 'A' + 256 * '0' + 'Z', "segment(1, 0)", x.segment(1, 0));
        due.is(65536 * 'Z' + 256 * '9' + 'A', "segment(2, 0)", x.segment(2, 0));
        int[] elements = {2, 0, 2, 20};
        for (int segment = 0; segment < elements.length; segment++) {
            due.is(elements[segment], "segment(" + segment + ", 1)", x.segment(segment, 1));
        }
    }

    private static void walked(SegmentForms x, int[] rows, int[] aboves) {
        for (int segment = 0; segment < rows.length; segment++) {
            due.is(rows[segment], "segment(" + segment + ", 2)", x.segment(segment, 2));
            due.is(aboves[segment], "segment(" + segment + ", 3)", x.segment(segment, 3));
        }
    }

    private static void rowsAndAboves() {
        SegmentForms x = Forms.withMessage(
                Forms.framed(1, "AAA'BBB'CCC'DDD'BBB'CCC'EEE'AAA'BBB'FFF'"));
        Forms.rows(x, 1, "AAA 1 9 0,BBB 1 2 1,CCC 0 2 2,DDD 0 1 3,EEE 0 1 1,FFF 0 1 0");
        int[] none = new int[12];
        java.util.Arrays.fill(none, -1);
        walked(x, none, none);
        due.is(0, "check()", x.check());
        walked(x, new int[] {-1, 0, 1, 2, 3, 1, 2, 4, 0, 1, 5, -1},
                new int[] {-1, -1, 1, 2, 3, 1, 5, 1, -1, 8, -1, -1});
    }

    private static void notWalkedOver() {
        SegmentForms x = Forms.withMessage(Forms.framed(1, "AAA'BBB'AAA'CCC'"));
        Forms.rows(x, 1, "AAA 1 2 0,BBB 1 1 1,CCC 0 1 0");
        due.is(7, "check()", x.check());
        walked(x, new int[] {-1, 0, 1, 0, -1, -1}, new int[] {-1, -1, 1, -1, -1, -1});
        SegmentForms y = Forms.withMessage(Forms.framed(1, "AAA'CCC'AAA'CCC'"));
        Forms.rows(y, 1, "AAA 1 2 0,CCC 0 1 0");
        due.is(8, "check()", y.check());
        walked(y, new int[] {-1, 0, 1, -1, -1, -1}, new int[] {-1, -1, -1, -1, -1, -1});
        SegmentForms z = Forms.withMessage(Forms.framed(1, "AAA'XXX'"));
        Forms.rows(z, 1, "AAA 1 2 0");
        due.is(6, "check()", z.check());
        walked(z, new int[] {-1, -1, -1, -1}, new int[] {-1, -1, -1, -1});
    }

    private static void byTheLastCheck() {
        SegmentForms x = Forms.withMessage(Forms.framed(1, "AAA'AAA'"));
        Forms.rows(x, 1, "AAA 1 1 0");
        x.check();
        walked(x, new int[] {-1, 0, -1, -1}, new int[] {-1, -1, -1, -1});
        Forms.rows(x, 1, "AAA 0 1 1");
        walked(x, new int[] {-1, 0, -1, -1}, new int[] {-1, -1, -1, -1});
        x.check();
        walked(x, new int[] {-1, 0, 1, -1}, new int[] {-1, -1, 1, -1});
        // A segment that only an earlier check walked over has no row.
        SegmentForms y = Forms.withMessage(Forms.framed(1, "XXX'BBB'XXX'AAA'"));
        Forms.rows(y, 1, "XXX 1 2 0,AAA 0 1 1,BBB 1 1 1");
        due.is(7, "check()", y.check());
        walked(y, new int[] {-1, 0, 2, 0, 1, -1}, new int[] {-1, -1, 1, -1, 3, -1});
        Forms.rows(y, 1, "XXX 0 1 1");
        due.is(8, "check()", y.check());
        walked(y, new int[] {-1, 0, 2, 3, -1, -1}, new int[] {-1, -1, 1, 1, -1, -1});
        // What a longer message's check has left is not there for the next one.
        Forms.read(x, Forms.framed(1, "AAA'AAA'"));
        walked(x, new int[] {-1, -1, -1, -1}, new int[] {-1, -1, -1, -1});
        x.check();
        Forms.read(x, Forms.framed(2, "AAA'AAA'"));
        due.is(5, "check()", x.check());
        walked(x, new int[] {-1, -1, -1, -1}, new int[] {-1, -1, -1, -1});
    }

    private static void wrongArguments() {
        SegmentForms x = new SegmentForms();
        wrong(x, 0, 0);
        Forms.read(x, "ABC'DEF'");
        int[] wrongs = {-1, Integer.MIN_VALUE, Integer.MAX_VALUE};
        for (int one : wrongs) {
            wrong(x, one, 0);
            wrong(x, 0, one);
            wrong(x, one, one);
        }
        for (int what = 0; what < 4; what++) {
            wrong(x, 2, what);
        }
        wrong(x, 60, 0);
        wrong(x, 1, 4);
        Forms.read(x, "wrong");
        wrong(x, 0, 0);
    }

    private static void wrong(SegmentForms x, int segment, int what) {
        due.thrown(IndexOutOfBoundsException.class, "segment(" + segment + ", " + what + ")",
                () -> x.segment(segment, what));
    }
}
