/** Promise 2: a sign comes to the text, if it is 32 .. 126 and there are not 1500. */
public final class Promise02AddTest {
    public static void main(String[] args) {
        Due due = new Due("Promise02AddTest");
        SegmentForms x = new SegmentForms();
        int[] refused = {31, 127, 0, -1, 10, 128, 255, 256 + 65, 65536 + 65, Integer.MIN_VALUE,
                Integer.MAX_VALUE};
        for (int c : refused) {
            due.is(false, "add(" + c + ")", x.add(c));
            due.is(0, "count(0) behind add(" + c + ")", x.count(0));
        }
        for (int c = 32; c <= 126; c++) {
            due.is(true, "add(" + c + ")", x.add(c));
            due.is(c - 31, "count(0) behind add(" + c + ")", x.count(0));
        }

        // The text is what was taken, without what was refused.
        SegmentForms y = new SegmentForms();
        Forms.give(y, "AB");
        y.add(31);
        Forms.give(y, "C+x");
        y.add(127);
        Forms.give(y, "y'");
        due.is(1, "read()", y.read());
        due.is("xy", "the component", Forms.component(y, 0, 0, 0, 0));

        full(due);
        due.end();
    }

    // So many calls are more than an object is promised for; the document names the edge.
    private static void full(Due due) {
        SegmentForms x = new SegmentForms();
        Forms.give(x, "ABC+");
        for (int i = 4; i < 1499; i++) {
            x.add('x');
        }
        due.is(1499, "count(0)", x.count(0));
        due.is(true, "add of sign 1500", x.add('\''));
        due.is(false, "add of sign 1501", x.add('\''));
        due.is(false, "add of sign 1501, again", x.add('x'));
        due.is(1500, "count(0) when full", x.count(0));
        due.is(1, "read() when full", x.read());
        due.is(1495, "field(0, 0, 0, 0)", x.field(0, 0, 0, 0));
        due.is(1500, "build()", x.build());
        due.is('\'', "at(1499)", x.at(1499));
        due.is(0, "at(1500)", x.at(1500));
        due.is(true, "add behind read()", x.add('x'));
    }
}
