/** Promises 8 to 11: repeats, components, field and letter. */
public final class Promise08To11PartsTest {
    private static final Due due = new Due("Promise08To11PartsTest");
    private static final int[] WRONG = {-1, 4, 8, 20, 60, 1499, 1500, Integer.MIN_VALUE,
        Integer.MAX_VALUE};

    public static void main(String[] args) {
        repeats();
        components();
        fields();
        letters();
        noSuchSegment();
        due.end();
    }

    private static SegmentForms sample() {
        return Forms.withMessage("AAA+a:bc*d++*:*e'BBB'CCC+:::::::x+?+?:?q'");
    }

    private static void repeats() {
        SegmentForms x = sample();
        int[][] all = {{2, 1, 3, 0}, {0}, {1, 1, 0}};
        for (int segment = 0; segment < all.length; segment++) {
            for (int element = 0; element < all[segment].length; element++) {
                due.is(all[segment][element], "repeats(" + segment + ", " + element + ")",
                        x.repeats(segment, element));
            }
        }
        for (int wrong : WRONG) {
            due.is(0, "repeats(0, " + wrong + ")", x.repeats(0, wrong));
        }
        due.is(4, "repeats of ***", Forms.withMessage("ABC+***'").repeats(0, 0));
    }

    private static void components() {
        SegmentForms x = sample();
        int[][] first = {{2, 1, 0}, {1, 0}, {1, 2, 1, 0}, {0}};
        for (int element = 0; element < first.length; element++) {
            for (int repeat = 0; repeat < first[element].length; repeat++) {
                due.is(first[element][repeat], "components(0, " + element + ", " + repeat + ")",
                        x.components(0, element, repeat));
            }
        }
        due.is(0, "components(1, 0, 0)", x.components(1, 0, 0));
        due.is(8, "components(2, 0, 0)", x.components(2, 0, 0));
        due.is(1, "components(2, 1, 0)", x.components(2, 1, 0));
        for (int wrong : WRONG) {
            due.is(0, "components(0, 0, " + wrong + ")", x.components(0, 0, wrong));
            due.is(0, "components(0, " + wrong + ", 0)", x.components(0, wrong, 0));
        }
    }

    private static void fields() {
        SegmentForms x = sample();
        due.is(1, "field(0, 0, 0, 0)", x.field(0, 0, 0, 0));
        due.is(2, "field(0, 0, 0, 1)", x.field(0, 0, 0, 1));
        due.is(-1, "field(0, 0, 0, 2)", x.field(0, 0, 0, 2));
        due.is(1, "field(0, 0, 1, 0)", x.field(0, 0, 1, 0));
        due.is(-1, "field(0, 0, 1, 1)", x.field(0, 0, 1, 1));
        due.is(-1, "field(0, 0, 2, 0)", x.field(0, 0, 2, 0));
        due.is(0, "field(0, 1, 0, 0)", x.field(0, 1, 0, 0));
        due.is(-1, "field(0, 1, 0, 1)", x.field(0, 1, 0, 1));
        due.is(0, "field(0, 2, 0, 0)", x.field(0, 2, 0, 0));
        due.is(0, "field(0, 2, 1, 1)", x.field(0, 2, 1, 1));
        due.is(1, "field(0, 2, 2, 0)", x.field(0, 2, 2, 0));
        due.is(-1, "field(0, 3, 0, 0)", x.field(0, 3, 0, 0));
        due.is(-1, "field(1, 0, 0, 0)", x.field(1, 0, 0, 0));
        due.is(0, "field(2, 0, 0, 6)", x.field(2, 0, 0, 6));
        due.is(1, "field(2, 0, 0, 7)", x.field(2, 0, 0, 7));
        due.is(3, "field(2, 1, 0, 0)", x.field(2, 1, 0, 0));
        for (int wrong : WRONG) {
            due.is(-1, "field(0, " + wrong + ", 0, 0)", x.field(0, wrong, 0, 0));
            due.is(-1, "field(0, 0, " + wrong + ", 0)", x.field(0, 0, wrong, 0));
            due.is(-1, "field(0, 0, 0, " + wrong + ")", x.field(0, 0, 0, wrong));
        }
    }

    private static void letters() {
        SegmentForms x = sample();
        due.is('a', "letter(0, 0, 0, 0, 0)", x.letter(0, 0, 0, 0, 0));
        due.is(-1, "letter(0, 0, 0, 0, 1)", x.letter(0, 0, 0, 0, 1));
        due.is('b', "letter(0, 0, 0, 1, 0)", x.letter(0, 0, 0, 1, 0));
        due.is('c', "letter(0, 0, 0, 1, 1)", x.letter(0, 0, 0, 1, 1));
        due.is('d', "letter(0, 0, 1, 0, 0)", x.letter(0, 0, 1, 0, 0));
        due.is(-1, "letter(0, 1, 0, 0, 0)", x.letter(0, 1, 0, 0, 0));
        due.is('e', "letter(0, 2, 2, 0, 0)", x.letter(0, 2, 2, 0, 0));
        due.is(-1, "letter(1, 0, 0, 0, 0)", x.letter(1, 0, 0, 0, 0));
        due.is('x', "letter(2, 0, 0, 7, 0)", x.letter(2, 0, 0, 7, 0));
        due.is("+:q", "field(2, 1, 0, 0)", Forms.component(x, 2, 1, 0, 0));
        for (int wrong : WRONG) {
            due.is(-1, "letter(0, " + wrong + ", 0, 0, 0)", x.letter(0, wrong, 0, 0, 0));
            due.is(-1, "letter(0, 0, " + wrong + ", 0, 0)", x.letter(0, 0, wrong, 0, 0));
            due.is(-1, "letter(0, 0, 0, " + wrong + ", 0)", x.letter(0, 0, 0, wrong, 0));
            due.is(-1, "letter(0, 0, 0, 0, " + wrong + ")", x.letter(0, 0, 0, 0, wrong));
        }
    }

    private static void noSuchSegment() {
        SegmentForms x = new SegmentForms();
        refused(x, 0);
        Forms.read(x, "AAA+a'BBB+b'");
        for (int wrong : new int[] {-1, 2, 60, Integer.MIN_VALUE, Integer.MAX_VALUE}) {
            refused(x, wrong);
        }
        Forms.read(x, "wrong");
        refused(x, 0);
    }

    private static void refused(SegmentForms x, int segment) {
        Class<IndexOutOfBoundsException> thrown = IndexOutOfBoundsException.class;
        for (int part : new int[] {0, -1}) {
            String parts = "(" + segment + ", " + part + " ..)";
            due.thrown(thrown, "repeats" + parts, () -> x.repeats(segment, part));
            due.thrown(thrown, "components" + parts, () -> x.components(segment, part, part));
            due.thrown(thrown, "field" + parts, () -> x.field(segment, part, part, part));
            due.thrown(thrown, "letter" + parts,
                    () -> x.letter(segment, part, part, part, part));
        }
    }
}
