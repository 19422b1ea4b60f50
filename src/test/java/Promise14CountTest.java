/** Promise 14: count of what there is. */
public final class Promise14CountTest {
    private static final Due due = new Due("Promise14CountTest");

    public static void main(String[] args) {
        textAndSegments();
        serviceSigns();
        rows();
        for (int what : new int[] {-1, -7, 8, 9, 14, 15, 100, Integer.MIN_VALUE,
            Integer.MAX_VALUE}) {
            due.is(-1, "count(" + what + ")", new SegmentForms().count(what));
            due.is(-1, "count(" + what + ")", Forms.withMessage("ABC'").count(what));
        }
        due.end();
    }

    private static void textAndSegments() {
        SegmentForms x = new SegmentForms();
        counts(x, 0, 0, 0);
        Forms.give(x, "ABC'DEF+'");
        counts(x, 9, 0, 0);
        x.read();
        counts(x, 0, 2, 0);
        x.build();
        counts(x, 0, 2, 8);
        Forms.give(x, "wrong");
        counts(x, 5, 2, 8);
        x.read();
        counts(x, 0, 0, 8);
        Forms.read(x, "ABC'");
        counts(x, 0, 1, 8);
        x.build();
        counts(x, 0, 1, 4);
    }

    private static void counts(SegmentForms x, int text, int segments, int built) {
        due.is(text, "count(0)", x.count(0));
        due.is(segments, "count(1)", x.count(1));
        due.is(built, "count(2)", x.count(2));
    }

    private static void serviceSigns() {
        SegmentForms x = new SegmentForms();
        signs(x, ":+?*'");
        Forms.give(x, "UNA|~!;^ABC~x^");
        signs(x, ":+?*'");
        x.read();
        signs(x, "|~!;^");
        Forms.give(x, "UNA(/-%)DEF)");
        signs(x, "|~!;^");
        x.read();
        signs(x, "(/-%)");
        Forms.read(x, "GHI'");
        signs(x, ":+?*'");
        Forms.read(x, "UNA|~!;^ABC^");
        signs(x, "|~!;^");
        // There is no message behind a wrong text, though its signs could be read.
        Forms.read(x, "UNA(/-%)DEF");
        signs(x, ":+?*'");
        Forms.read(x, "UNA|~!;^ABC^");
        Forms.read(x, "UNA(/-((ABC");
        signs(x, ":+?*'");
    }

    private static void signs(SegmentForms x, String signs) {
        for (int k = 0; k < 5; k++) {
            due.is(signs.charAt(k), "count(" + (3 + k) + ")", x.count(3 + k));
        }
    }

    private static void rows() {
        SegmentForms x = new SegmentForms();
        Forms.rows(x, 0, "AAA 0 1 0");
        Forms.rows(x, 2, "AAA 0 1 0,BBB 0 1 1");
        Forms.rows(x, 3, "AAA 0 1 0,BBB 0 1 1,CCC 0 1 1");
        int[] rows = {1, 0, 2, 3};
        for (int kind = 0; kind < 4; kind++) {
            due.is(rows[kind], "count(" + (10 + kind) + ")", x.count(10 + kind));
        }
        Forms.read(x, "ABC'");
        Forms.read(x, "wrong");
        due.is(2, "count(12) behind read()", x.count(12));
    }
}
