/** The edges of count; each method quotes the document's words. */
public final class EdgesCountTest {
    private static final Due due = new Due("EdgesCountTest");

    public static void main(String[] args) {
        signsOfTheText();
        segments();
        signsBuilt();
        serviceSigns();
        rows();
        anotherWhat();
        none();
        due.end();
    }

    private static void signsOfTheText() {
        due.by("what 0: signs of the text");
        SegmentForms x = new SegmentForms();
        due.is(0, "count(0)", x.count(0));
        for (int i = 1; i <= 1500; i++) {
            x.add('A');
            due.is(i, "count(0)", x.count(0));
        }
        x.add('A');
        due.is(1500, "count(0) when full", x.count(0));
        x.read();
        due.is(0, "count(0) behind read()", x.count(0));
    }

    private static void segments() {
        due.by("1: segments, 0 without a message");
        SegmentForms x = new SegmentForms();
        due.is(0, "count(1) of a new object", x.count(1));
        for (int many : new int[] {1, 60, 2, 59}) {
            Forms.give(x, "ABC'".repeat(many));
            due.is(0, "count(1) ahead of read()", x.count(1));
            x.read();
            due.is(many, "count(1)", x.count(1));
            Forms.give(x, "ABC'");
            due.is(many, "count(1) with a text", x.count(1));
            Forms.give(x, "D");
            x.read();
            due.is(0, "count(1) behind a wrong text", x.count(1));
        }
    }

    private static void signsBuilt() {
        due.by("2: signs of what was built last");
        SegmentForms x = new SegmentForms();
        due.is(0, "count(2) of a new object", x.count(2));
        Forms.read(x, "ABC+x'");
        due.is(0, "count(2) ahead of build()", x.count(2));
        x.build();
        due.is(6, "count(2)", x.count(2));
        x.read();
        due.is(6, "count(2) without a message", x.count(2));
        Forms.read(x, "ABC+'");
        due.is(6, "count(2) of another message", x.count(2));
        x.build();
        due.is(4, "count(2) of what is shorter", x.count(2));
    }

    private static void serviceSigns() {
        due.by("3 to 7: the service signs of the message, COMPONENT to END (those that are not "
                + "told, without a message)");
        SegmentForms x = new SegmentForms();
        signs(x, ":+?*'", "a new object");
        Forms.give(x, "UNA|~!;^ABC^");
        signs(x, ":+?*'", "a text that tells others");
        x.read();
        signs(x, "|~!;^", "a message that tells others");
        Forms.give(x, "ABC'");
        signs(x, "|~!;^", "a text to come");
        x.read();
        signs(x, ":+?*'", "a message that tells none");
        for (String wrong : new String[] {"", "UNA|~!;^", "UNA|~!;^ABC", "UNA|~!;^ABC^'", "UNA|~!",
            "UNA|~!;;ABC;", "ABC"}) {
            Forms.read(x, "UNA/-.,;ABC;");
            signs(x, "/-.,;", "a message ahead of " + wrong);
            Forms.read(x, wrong);
            signs(x, ":+?*'", "no message behind " + wrong);
        }
    }

    private static void signs(SegmentForms x, String signs, String when) {
        for (int k = 0; k < 5; k++) {
            due.is(signs.charAt(k), "count(" + (3 + k) + ") of " + when, x.count(3 + k));
        }
    }

    private static void rows() {
        due.by("from 10 on rows of kind what - 10");
        SegmentForms x = new SegmentForms();
        for (int row = 0; row <= 20; row++) {
            for (int kind = 0; kind < 4; kind++) {
                int many = Math.max(0, row - kind);
                due.is(many, "count(" + (10 + kind) + ")", x.count(10 + kind));
            }
            for (int kind = 0; kind < 4; kind++) {
                if (row >= kind && row < 20) {
                    x.row(kind, Forms.tag("ABC"), 0, 1, 0);
                }
            }
        }
        due.is(20, "count(10)", x.count(10));
        due.is(17, "count(13)", x.count(13));
    }

    private static void anotherWhat() {
        due.by("NONE for another what");
        SegmentForms full = Forms.withMessage("ABC'");
        full.build();
        for (int kind = 0; kind < 4; kind++) {
            Forms.rows(full, kind, "ABC 0 1 0");
        }
        for (SegmentForms x : new SegmentForms[] {new SegmentForms(), full}) {
            for (int what = 14; what < 60; what++) {
                due.is(-1, "count(" + what + ")", x.count(what));
                due.is(-1, "count(" + (13 - what) + ")", x.count(13 - what));
            }
            for (int what : new int[] {8, 9, 256, 256 + 10, 65536 + 3, Integer.MAX_VALUE,
                Integer.MAX_VALUE - 10, Integer.MIN_VALUE, Integer.MIN_VALUE + 3,
                Integer.MIN_VALUE + 9, Integer.MIN_VALUE + 10, Integer.MIN_VALUE + 13}) {
                due.is(-1, "count(" + what + ")", x.count(what));
            }
        }
    }

    private static void none() {
        due.by("The constants: `NONE = -1`: None");
        due.is(-1, "NONE", SegmentForms.NONE);
        SegmentForms x = Forms.withMessage("ABC'");
        due.is(SegmentForms.NONE, "count(14)", x.count(14));
        due.is(SegmentForms.NONE, "fault(0)", x.fault(0));
        due.is(SegmentForms.NONE, "field(0, 0, 0, 0)", x.field(0, 0, 0, 0));
    }
}
