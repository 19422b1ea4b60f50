/** The edges of fault, and of what segment tells of a check; by the document's words. */
public final class EdgesFaultTest {
    private static final Due due = new Due("EdgesFaultTest");
    private static final Checks checks = new Checks(due);

    public static void main(String[] args) {
        whatItAnswered();
        segmentOfAFault();
        rowOfAFault();
        rowAndAboveByTheLastCheck();
        whatElse();
        withoutACheck();
        ofThisMessage();
        due.end();
    }

    private static void whatItAnswered() {
        due.by("what 0: what it answered");
        SegmentForms x = new SegmentForms();
        Forms.rows(x, 1, "AAA 1 1 0");
        String[] texts = {Forms.framed(1, "AAA'"), "AAA'", "UNH'", "UNH'UNT'", "UNH'UNT+2'",
            "UNH+r'UNT+2+r'", Forms.framed(1, "XXX'"), Forms.framed(1, ""),
            Forms.framed(1, "AAA'AAA'")};
        for (int answer = 0; answer < texts.length; answer++) {
            Forms.read(x, texts[answer]);
            due.is(answer, "check() of " + texts[answer], x.check());
            due.is(answer, "fault(0) of " + texts[answer], x.fault(0));
        }
    }

    private static void segmentOfAFault() {
        due.by("1: the segment of 6, 7 (may be that of UNT) and 8");
        checks.checked(6, 1, -1, "AAA 0 1 0", "XXX'");
        checks.checked(6, 58, -1, "AAA 0 1 0", "AAA'".repeat(57) + "XXX'");
        checks.checked(7, 1, 0, "AAA 1 1 0", "");
        checks.checked(7, 1, 0, "AAA 1 1 0,BBB 0 1 0", "BBB'");
        checks.checked(7, 59, 3, "AAA 0 20 0,AAA 0 20 0,AAA 0 20 0,BBB 1 1 0", "AAA'".repeat(58));
        checks.checked(8, 2, -1, "AAA 0 1 0", "AAA'AAA'");
        checks.checked(8, 1, -1, "AAA 0 1 0,BBB 0 1 1", "BBB'");
        checks.checked(8, 58, -1, "AAA 0 20 0,AAA 0 20 0,AAA 0 17 0", "AAA'".repeat(58));
    }

    private static void rowOfAFault() {
        due.by("2: the row of 7");
        for (int row = 0; row < 20; row++) {
            checks.checked(7, 1, row, "AAA 0 1 0,".repeat(row) + "BBB 1 1 0", "");
            // The first row of two that are missing.
            if (row < 19) {
                checks.checked(7, 1, row, "AAA 0 1 0,".repeat(row) + "BBB 1 1 0,CCC 1 1 0", "");
            }
        }
        String rows = "AAA 1 1 0,BBB 1 1 1,CCC 1 1 2,DDD 1 1 3";
        for (int row = 0; row < 4; row++) {
            checks.checked(7, 1 + row, row, rows, "AAA'BBB'CCC'".substring(0, 4 * row));
        }
        checks.checked(6, 1, -1, "AAA 1 1 0", "XXX'");
        checks.checked(8, 2, -1, "AAA 1 1 0", "AAA'AAA'");
    }

    private static void rowAndAboveByTheLastCheck() {
        due.by("2: its row by the last check, 3: the segment above it by that");
        SegmentForms x = Forms.withMessage(Forms.framed(1, "AAA'AAA'"));
        checks.walked(x, Checks.noneOf(4));
        x.check();
        checks.walked(x, Checks.noneOf(4));
        Forms.rows(x, 1, "AAA 0 1 0");
        checks.walked(x, Checks.noneOf(4));
        x.check();
        checks.walked(x, -1, -1, 0, -1, -1, -1, -1, -1);
        Forms.rows(x, 1, "AAA 0 1 1");
        checks.walked(x, -1, -1, 0, -1, -1, -1, -1, -1);
        x.check();
        checks.walked(x, -1, -1, 0, -1, 1, 1, -1, -1);
        x.build();
        checks.walked(x, -1, -1, 0, -1, 1, 1, -1, -1);
        // The same message again has not been checked.
        Forms.read(x, Forms.framed(1, "AAA'AAA'"));
        checks.walked(x, Checks.noneOf(4));
        // A check that ends ahead of the walk walks over nothing.
        Forms.read(x, "UNH+r+1'AAA'AAA'UNT+9+r'");
        due.is(3, "check()", x.check());
        checks.walked(x, Checks.noneOf(4));
    }

    private static void whatElse() {
        due.by("NONE else");
        String[] texts = {"AAA'", "UNH'", "UNH'UNT'", "UNH'UNT+2'", "UNH+r+9'UNT+2+r'"};
        for (int answer = 1; answer <= 5; answer++) {
            SegmentForms x = Forms.withMessage(texts[answer - 1]);
            due.is(answer, "check()", x.check());
            checks.faults(x, texts[answer - 1], answer, -1, -1);
            noOtherWhat(x);
        }
        noOtherWhat(checks.checked(0, -1, -1, "AAA 0 1 0", ""));
        noOtherWhat(checks.checked(6, 1, -1, "AAA 0 1 0", "XXX'"));
        noOtherWhat(checks.checked(7, 1, 0, "AAA 1 1 0", ""));
        noOtherWhat(checks.checked(8, 2, -1, "AAA 1 1 0", "AAA'AAA'"));
    }

    private static void noOtherWhat(SegmentForms x) {
        for (int what = 3; what < 20; what++) {
            due.is(-1, "fault(" + what + ")", x.fault(what));
            due.is(-1, "fault(" + (2 - what) + ")", x.fault(2 - what));
        }
        for (int what : new int[] {Integer.MIN_VALUE, Integer.MAX_VALUE, 256, 65536, 1 << 31 | 1}) {
            due.is(-1, "fault(" + what + ")", x.fault(what));
        }
    }

    private static void withoutACheck() {
        due.by("or without a check");
        SegmentForms x = new SegmentForms();
        checks.faults(x, "a new object", -1, -1, -1);
        Forms.rows(x, 1, "AAA 1 1 0");
        Forms.give(x, Forms.framed(1, ""));
        checks.faults(x, "a text", -1, -1, -1);
        x.read();
        checks.faults(x, "a message", -1, -1, -1);
        x.build();
        checks.faults(x, "a built message", -1, -1, -1);
        x.check();
        checks.faults(x, "a checked message", 7, 1, 0);
    }

    private static void ofThisMessage() {
        due.by("Of the last check (of this message)");
        SegmentForms x = checks.checked(7, 2, 0, "AAA 2 2 0", "AAA'");
        Forms.give(x, Forms.framed(1, "AAA'AAA'"));
        checks.faults(x, "a message with another text to come", 7, 2, 0);
        x.read();
        checks.faults(x, "the next message", -1, -1, -1);
        checks.walked(x, Checks.noneOf(4));
        x.check();
        checks.faults(x, "the next message's check", 0, -1, -1);
        checks.walked(x, -1, -1, 0, -1, 0, -1, -1, -1);
        Forms.rows(x, 1, "BBB 1 1 1");
        checks.faults(x, "a row behind the check", 0, -1, -1);
        x.check();
        checks.faults(x, "the last of two checks", 7, 2, 1);
        checks.walked(x, -1, -1, 0, -1, -1, -1, -1, -1);
        x.read();
        checks.faults(x, "no message", -1, -1, -1);
        due.thrown(IllegalStateException.class, "check()", () -> x.check());
        checks.faults(x, "a refused check", -1, -1, -1);
    }
}
