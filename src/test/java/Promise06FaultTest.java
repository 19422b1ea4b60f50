/** Promise 6: what the last check of this message found. */
public final class Promise06FaultTest {
    private static final Due due = new Due("Promise06FaultTest");

    public static void main(String[] args) {
        ofEachAnswer();
        forgotten();
        checkedAgain();
        otherWhats();
        due.end();
    }

    private static void faults(SegmentForms x, String when, int answer, int segment, int row) {
        due.is(answer, "fault(0) of " + when, x.fault(0));
        due.is(segment, "fault(1) of " + when, x.fault(1));
        due.is(row, "fault(2) of " + when, x.fault(2));
    }

    private static void checked(String rows, String text, int answer, int segment, int row) {
        SegmentForms x = Forms.withMessage(text);
        Forms.rows(x, 1, rows);
        faults(x, text + " ahead of check()", -1, -1, -1);
        x.check();
        faults(x, text, answer, segment, row);
    }

    private static void ofEachAnswer() {
        String rows = "AAA 1 2 0,BBB 1 1 1,CCC 0 1 0";
        checked(rows, Forms.framed(1, "AAA'BBB'"), 0, -1, -1);
        checked(rows, "AAA'", 1, -1, -1);
        checked(rows, "UNH'", 2, -1, -1);
        checked(rows, "UNH'UNT'", 3, -1, -1);
        checked(rows, "UNH'UNT+2'", 4, -1, -1);
        checked(rows, "UNH+r'UNT+2+r'", 5, -1, -1);
        checked(rows, Forms.framed(1, "XXX'AAA'"), 6, 1, -1);
        checked(rows, Forms.framed(1, "AAA'BBB'XXX'YYY'"), 6, 3, -1);
        checked(rows, Forms.framed(1, ""), 7, 1, 0);
        checked(rows, Forms.framed(1, "CCC'"), 7, 1, 0);
        checked(rows, Forms.framed(1, "AAA'"), 7, 2, 1);
        checked(rows, Forms.framed(1, "AAA'BBB'AAA'CCC'"), 7, 4, 1);
        checked(rows, Forms.framed(1, "AAA'BBB'CCC'AAA'"), 8, 4, -1);
        checked(rows, Forms.framed(1, "AAA'BBB'AAA'BBB'AAA'BBB'"), 8, 5, -1);
        checked("AAA 2 3 0,BBB 0 1 0", Forms.framed(1, "AAA'BBB'"), 7, 2, 0);
    }

    private static void forgotten() {
        SegmentForms x = Forms.withMessage(Forms.framed(1, "AAA'"));
        Forms.rows(x, 1, "AAA 2 2 0");
        x.check();
        faults(x, "the check", 7, 2, 0);
        Forms.give(x, Forms.framed(1, "AAA'AAA'"));
        Forms.rows(x, 1, "BBB 0 1 0");
        x.build();
        faults(x, "the check, behind other calls", 7, 2, 0);
        x.read();
        faults(x, "another message", -1, -1, -1);
        x.check();
        faults(x, "another message's check", 0, -1, -1);
        Forms.rows(x, 1, "CCC 1 1 1");
        x.check();
        faults(x, "one more row", 0, -1, -1);
        Forms.rows(x, 1, "DDD 1 1 0");
        x.check();
        faults(x, "a row that is missing", 7, 3, 3);
        x.read();
        faults(x, "no message", -1, -1, -1);
        due.thrown(IllegalStateException.class, "check() without a message", () -> x.check());
        faults(x, "a check without a message", -1, -1, -1);
    }

    private static void checkedAgain() {
        SegmentForms x = Forms.withMessage(Forms.framed(1, "XXX'BBB'XXX'AAA'"));
        Forms.rows(x, 1, "XXX 1 2 0,AAA 0 1 1");
        x.check();
        faults(x, "a tag that no row has", 6, 2, -1);
        Forms.rows(x, 1, "BBB 1 1 1");
        x.check();
        faults(x, "a row that is missing", 7, 5, 2);
        Forms.rows(x, 1, "XXX 0 1 1");
        x.check();
        faults(x, "a segment left over", 8, 4, -1);
        Forms.rows(x, 1, "AAA 0 1 0");
        x.check();
        faults(x, "nothing wrong any more", 0, -1, -1);
    }

    private static void otherWhats() {
        SegmentForms x = Forms.withMessage(Forms.framed(1, ""));
        Forms.rows(x, 1, "AAA 1 1 0");
        x.check();
        for (int what : new int[] {-1, 3, 4, 10, Integer.MIN_VALUE, Integer.MAX_VALUE}) {
            due.is(-1, "fault(" + what + ")", x.fault(what));
        }
    }
}
