/** The edges of a check's first five faults; each method quotes the document's words. */
public final class EdgesFrameTest {
    private static final Due due = new Due("EdgesFrameTest");

    public static void main(String[] args) {
        header();
        trailer();
        butOne();
        numberOfSegments();
        noZeroAhead();
        numberNotThere();
        reference();
        referenceNotThere();
        kindOfOneDigit();
        kindWithoutRows();
        firstOfSeveral();
        withoutMessage();
        due.end();
    }

    /** Checks a text with a row of tag ABC in each kind. */
    private static void answer(int answer, String text) {
        SegmentForms x = Forms.withMessage(text);
        for (int kind = 0; kind < 4; kind++) {
            Forms.rows(x, kind, "ABC 0 20 0,ABC 0 20 0,ABC 0 20 0");
        }
        due.is(answer, "check() of " + text, x.check());
        due.is(answer, "fault(0) of " + text, x.fault(0));
        if (answer <= 5) {
            due.is(-1, "fault(1) of " + text, x.fault(1));
            due.is(-1, "fault(2) of " + text, x.fault(2));
        }
    }

    private static void header() {
        due.by("1 its first segment is not UNH");
        answer(0, "UNH+r+1'UNT+2+r'");
        for (String near : new String[] {"TNH", "VNH", "UMH", "UOH", "UNG", "UNI", "HNU", "U0H",
            "UNT", "ABC"}) {
            answer(1, near + "+r+1'UNT+2+r'");
            answer(1, near + "+r+1'");
        }
        answer(1, "ABC'UNH+r+1'UNT+3+r'");
        answer(1, "UNT+2+r'UNH+r+1'");
    }

    private static void trailer() {
        due.by("2 its last one is not UNT");
        for (String near : new String[] {"TNT", "VNT", "UMT", "UOT", "UNS", "UNU", "TNU", "U0T",
            "UNH", "ABC"}) {
            answer(2, "UNH+r+1'" + near + "+2+r'");
        }
        answer(2, "UNH+r+1'UNT+2+r'ABC'");
        answer(2, "UNH+r+1'UNT+3+r'ABC+3+r'");
        answer(2, "UNH+r+1'" + "ABC'".repeat(59));
    }

    private static void butOne() {
        due.by("or there is but one");
        answer(2, "UNH'");
        answer(2, "UNH+r+1'");
        answer(2, "UNH+1+r'");
        answer(0, "UNH+r+1'UNT+2+r'");
    }

    private static void numberOfSegments() {
        due.by("3 the first component of UNT's first element is not the number of segments");
        for (int segments : new int[] {2, 3, 9, 10, 11, 19, 20, 21, 59, 60}) {
            String ahead = "UNH+r+1'" + "ABC'".repeat(segments - 2) + "UNT+";
            for (int told = 0; told <= 70; told++) {
                answer(told == segments ? 0 : 3, ahead + told + "+r'");
            }
            answer(3, ahead + "1" + segments + "+r'");
            answer(3, ahead + segments + "0+r'");
            answer(3, ahead + segments + segments + "+r'");
        }
        // UNA is no segment.
        answer(0, "UNA:+?*'UNH+r+1'UNT+2+r'");
        answer(3, "UNA:+?*'UNH+r+1'UNT+3+r'");
        // A number that would be the same by 2 to the power of 32.
        answer(3, "UNH+r+1'UNT+4294967298+r'");
        // It is the first component of the first repeat that counts.
        answer(0, "UNH+r+1'UNT+2:3*4+r'");
        answer(3, "UNH+r+1'UNT+3:2*2+r'");
        answer(3, "UNH+r+1'UNT+:2+r'");
        answer(3, "UNH+r+1'UNT+*2+r'");
        answer(3, "UNH+r+1'UNT++2+r'");
    }

    private static void noZeroAhead() {
        due.by("(in digits, no 0 ahead)");
        answer(3, "UNH+r+1'UNT+02+r'");
        answer(3, "UNH+r+1'UNT+002+r'");
        answer(3, "UNH+r+1'UNT+" + "0".repeat(40) + "2+r'");
        answer(3, "UNH+r+1'" + "ABC'".repeat(8) + "UNT+010+r'");
        for (String wrong : new String[] {" 2", "2 ", "?+2", "-2", "2.", "2.0", "II", "x", "2x",
            "\"2\"", "b", "R"}) {
            answer(3, "UNH+r+1'UNT+" + wrong + "+r'");
        }
        for (char c = 32; c <= 126; c++) {
            answer(c == '2' ? 0 : 3, "UNH+r+1'UNT+?" + c + "+r'");
        }
    }

    private static void numberNotThere() {
        due.by("the first component of UNT's first element");
        answer(3, "UNH+r+1'UNT'");
        answer(3, "UNH+r+1'UNT+'");
        answer(3, "UNH+r+1'UNT++r'");
        answer(3, "UNH+r+1'" + "ABC'".repeat(58) + "UNT'");
    }

    private static void reference() {
        due.by("4 that of its second element is not that of UNH's first one");
        String long40 = "abcdefghij".repeat(4);
        String[] same = {"r", "rr", "R", "0", "00", " ", "?+", "??", "?'?:", long40};
        for (String one : same) {
            for (String other : same) {
                answer(one.equals(other) ? 0 : 4, "UNH+" + one + "+1'UNT+2+" + other + "'");
            }
        }
        answer(4, "UNH+" + long40 + "+1'UNT+2+" + long40 + "x'");
        answer(4, "UNH+" + long40 + "x+1'UNT+2+" + long40 + "y'");
        answer(4, "UNH+x" + long40 + "+1'UNT+2+y" + long40 + "'");
        answer(4, "UNH+r+1'UNT+2+r '");
        answer(4, "UNH+ r+1'UNT+2+r'");
        answer(4, "UNH+1+1'UNT+2+01'");
        // What is released is the same as what is not.
        answer(0, "UNH+r+1'UNT+2+?r'");
        // It is the first component of the first repeat that counts.
        answer(0, "UNH+r:x*y+1'UNT+2+r:z*v'");
        answer(4, "UNH+r:s+1'UNT+2+s:r'");
        answer(4, "UNH+r*s+1'UNT+2+s*r'");
        answer(4, "UNH+r+1'UNT+2+:r'");
        answer(4, "UNH+r+1'UNT+2++r'");
        answer(4, "UNH++1+r'UNT+2+r'");
    }

    private static void referenceNotThere() {
        due.by("(or one of both is not there)");
        answer(4, "UNH+r+1'UNT+2'");
        answer(4, "UNH'UNT+2+r'");
        answer(4, "UNH'UNT+2'");
        answer(4, "UNH'UNT+2+'");
        answer(4, "UNH++1'UNT+2'");
        // An empty one is there.
        answer(4, "UNH++1'UNT+2+r'");
        answer(4, "UNH+r+1'UNT+2+'");
        answer(0, "UNH++1'UNT+2+'");
        answer(0, "UNH+:a*b+1'UNT+2+*:c'");
    }

    private static void kindOfOneDigit() {
        due.by("5 that of UNH's second element is not one digit 0 .. 3");
        for (char c = 32; c <= 126; c++) {
            answer(c >= '0' && c <= '3' ? 0 : 5, "UNH+r+?" + c + "'UNT+2+r'");
        }
        for (String wrong : new String[] {"00", "01", "10", "11", "1 ", " 1", "-1", "4294967297"}) {
            answer(5, "UNH+r+" + wrong + "'UNT+2+r'");
        }
        answer(5, "UNH+r'UNT+2+r'");
        answer(5, "UNH+r+'UNT+2+r'");
        answer(5, "UNH+r++1'UNT+2+r'");
        answer(5, "UNH+r+:1'UNT+2+r'");
        answer(5, "UNH+r+*1'UNT+2+r'");
        answer(0, "UNH+r+1:9*9+9'UNT+2+r'");
    }

    private static void kindWithoutRows() {
        due.by("or that kind has no rows");
        for (int told = 0; told < 4; told++) {
            SegmentForms x = Forms.withMessage(Forms.framed(told, ""));
            due.is(5, "check() of kind " + told + " without rows", x.check());
            for (int kind = 0; kind < 4; kind++) {
                if (kind != told) {
                    Forms.rows(x, kind, "ABC 0 1 0");
                }
            }
            due.is(5, "check() of kind " + told + " with rows of the others", x.check());
            due.is(-1, "fault(1)", x.fault(1));
            Forms.rows(x, told, "ABC 0 1 0");
            due.is(0, "check() of kind " + told + " with a row", x.check());
        }
    }

    private static void firstOfSeveral() {
        due.by("TO CHECK a message is to find the first of");
        answer(1, "XXX+s+7'XXX'XXX+9+t'");
        answer(2, "UNH+s+7'XXX'XXX+9+t'");
        answer(3, "UNH+s+7'XXX'UNT+9+t'");
        answer(4, "UNH+s+7'XXX'UNT+3+t'");
        answer(5, "UNH+s+7'XXX'UNT+3+s'");
        answer(6, "UNH+s+1'XXX'UNT+3+s'");
        answer(0, "UNH+s+1'ABC'UNT+3+s'");
    }

    private static void withoutMessage() {
        due.by("IllegalStateException without a message");
        SegmentForms x = new SegmentForms();
        Forms.rows(x, 1, "ABC 0 1 0");
        refused(x, "a new object");
        Forms.give(x, Forms.framed(1, ""));
        refused(x, "an object with a text");
        x.read();
        due.is(0, "check()", x.check());
        x.read();
        refused(x, "an object that has read nothing");
        Forms.read(x, "UNH+r+1'UNT+2+r");
        refused(x, "an object that has read a wrong text");
        Forms.read(x, Forms.framed(1, ""));
        due.is(0, "check() once more", x.check());
    }

    private static void refused(SegmentForms x, String when) {
        due.thrown(IllegalStateException.class, "check() of " + when, () -> x.check());
        due.is(-1, "fault(0) of " + when, x.fault(0));
    }
}
