/** Promise 1: no text, no message, no grammars. */
public final class Promise01NewObjectTest {
    public static void main(String[] args) {
        Due due = new Due("Promise01NewObjectTest");
        SegmentForms x = new SegmentForms();
        for (int what = 0; what <= 2; what++) {
            due.is(0, "count(" + what + ")", x.count(what));
        }
        for (int k = 0; k < 5; k++) {
            int what = 3 + k;
            due.is(":+?*'".charAt(k), "count(" + what + ")", x.count(what));
        }
        for (int what = 10; what <= 13; what++) {
            due.is(0, "count(" + what + ")", x.count(what));
        }
        for (int what = 0; what <= 2; what++) {
            due.is(-1, "fault(" + what + ")", x.fault(what));
        }
        due.is(0, "at(0)", x.at(0));
        due.thrown(IllegalStateException.class, "check()", () -> x.check());
        due.thrown(IllegalStateException.class, "build()", () -> x.build());
        due.thrown(IndexOutOfBoundsException.class, "segment(0, 0)", () -> x.segment(0, 0));
        due.is(-1, "read()", x.read());

        // An object has nothing of another one's.
        SegmentForms other = Forms.withMessage("UNA;-!/.UNH-1.");
        Forms.rows(other, 0, "ABC 0 1 0");
        other.build();
        SegmentForms fresh = new SegmentForms();
        due.is(0, "count(1) beside another object", fresh.count(1));
        due.is(0, "count(2) beside another object", fresh.count(2));
        due.is(':', "count(3) beside another object", fresh.count(3));
        due.is(0, "count(10) beside another object", fresh.count(10));
        due.end();
    }
}
