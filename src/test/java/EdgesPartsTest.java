/** The edges of segment, repeats, components, field and letter, by the document's words. */
public final class EdgesPartsTest {
    private static final Due due = new Due("EdgesPartsTest");
    private static final Class<IndexOutOfBoundsException> THROWN = IndexOutOfBoundsException.class;

    // One of each that is full, empty or ordinary, with others ahead and behind.
    private static final String TEXT = "AAA+p*q:r'BBB" + "+".repeat(18) + "+a*b*c*+1:2:3:4:5:6:7:'"
            + "CCC'DDD+xyz+?'?+'";

    public static void main(String[] args) {
        noSuchSegment();
        noSuchWhat();
        tagAsANumber();
        elementsOfASegment();
        noSuchElement();
        noSuchRepeat();
        noSuchComponent();
        noSuchSign();
        mostOfAll();
        nothingOfTheMessageAhead();
        due.end();
    }

    private static int[] farFrom(int size) {
        return new int[] {size, size + 1, size + 2, -1, -2, 60, 256, 1500, 65536, Integer.MAX_VALUE,
            Integer.MAX_VALUE - 1, Integer.MIN_VALUE, Integer.MIN_VALUE + 1};
    }

    private static void noSuchSegment() {
        due.by("IndexOutOfBoundsException if there is no such segment");
        SegmentForms x = new SegmentForms();
        refused(x, 0);
        refused(x, -1);
        Forms.give(x, "ABC+x'");
        refused(x, 0);
        for (int segments : new int[] {1, 2, 59, 60}) {
            SegmentForms y = Forms.withMessage("ABC+x'".repeat(segments));
            for (int segment : new int[] {0, segments - 1}) {
                due.is(Forms.tag("ABC"), "segment(" + segment + ", 0)", y.segment(segment, 0));
                due.is(1, "segment(" + segment + ", 1)", y.segment(segment, 1));
                due.is(1, "repeats(" + segment + ", 0)", y.repeats(segment, 0));
                due.is(1, "components(" + segment + ", 0, 0)", y.components(segment, 0, 0));
                due.is(1, "field(" + segment + ", 0, 0, 0)", y.field(segment, 0, 0, 0));
                due.is('x', "letter(" + segment + ", 0, 0, 0, 0)", y.letter(segment, 0, 0, 0, 0));
            }
            for (int segment : farFrom(segments)) {
                refused(y, segment);
            }
        }
        // A shorter message has no segments of the longer one ahead of it.
        SegmentForms y = Forms.withMessage("ABC+x'DEF+y'GHI+z'");
        Forms.read(y, "JKL+v'");
        refused(y, 1);
        refused(y, 2);
        y.read();
        refused(y, 0);
    }

    /** Whatever else is asked for: no such segment is told first. */
    private static void refused(SegmentForms x, int segment) {
        for (int part : new int[] {0, -1, 99, Integer.MIN_VALUE, Integer.MAX_VALUE}) {
            String parts = "(" + segment + ", " + part + " ..)";
            due.thrown(THROWN, "segment" + parts, () -> x.segment(segment, part));
            due.thrown(THROWN, "repeats" + parts, () -> x.repeats(segment, part));
            due.thrown(THROWN, "components" + parts, () -> x.components(segment, part, part));
            due.thrown(THROWN, "field" + parts, () -> x.field(segment, part, part, part));
            due.thrown(THROWN, "letter" + parts, () -> x.letter(segment, part, part, part, part));
        }
    }

    private static void noSuchWhat() {
        due.by("IndexOutOfBoundsException if there is no such segment or what");
        SegmentForms x = Forms.withMessage(TEXT);
        for (int segment = 0; segment < 4; segment++) {
            int there = segment;
            for (int what : farFrom(4)) {
                due.thrown(THROWN, "segment(" + there + ", " + what + ")",
                        () -> x.segment(there, what));
            }
            due.is(-1, "segment(" + there + ", 2)", x.segment(there, 2));
            due.is(-1, "segment(" + there + ", 3)", x.segment(there, 3));
        }
    }

    private static void tagAsANumber() {
        due.by("what 0: its tag as a number");
        SegmentForms x = Forms.withMessage("A00'Z99'ZZZ'AAA'UNA'");
        String[] tags = {"A00", "Z99", "ZZZ", "AAA", "UNA"};
        for (int segment = 0; segment < tags.length; segment++) {
            due.is(Forms.tag(tags[segment]), "segment(" + segment + ", 0)", x.segment(segment, 0));
        }
        due.is(65 * 65536 + 48 * 256 + 48, "segment(0, 0)", x.segment(0, 0));
        due.is(90 * 65536 + 90 * 256 + 90, "segment(2, 0)", x.segment(2, 0));
    }

    private static void elementsOfASegment() {
        due.by("1: elements");
        SegmentForms x = Forms.withMessage(TEXT);
        int[] elements = {1, 20, 0, 2};
        for (int segment = 0; segment < elements.length; segment++) {
            due.is(elements[segment], "segment(" + segment + ", 1)", x.segment(segment, 1));
        }
        // An element that is empty is an element.
        due.is(1, "segment(0, 1) of ABC+'", Forms.withMessage("ABC+'").segment(0, 1));
        due.is(20, "segment(0, 1) of twenty", Forms.withMessage("ABC" + "+".repeat(20) + "'")
                .segment(0, 1));
    }

    private static void noSuchElement() {
        due.by("How many repeats an element has, 0 if there is no such element");
        SegmentForms x = Forms.withMessage(TEXT);
        int[] elements = {1, 20, 0, 2};
        for (int segment = 0; segment < 4; segment++) {
            for (int element : farFrom(elements[segment])) {
                nothing(x, segment, element, 0);
                due.is(0, "repeats(" + segment + ", " + element + ")",
                        x.repeats(segment, element));
            }
        }
        due.is(2, "repeats(0, 0)", x.repeats(0, 0));
        due.is(1, "repeats(1, 0)", x.repeats(1, 0));
        due.is(4, "repeats(1, 18)", x.repeats(1, 18));
        due.is(1, "repeats(1, 19)", x.repeats(1, 19));
        due.is(1, "repeats(3, 1)", x.repeats(3, 1));
    }

    private static void noSuchRepeat() {
        due.by("How many components a repeat has, 0 if there is none such");
        SegmentForms x = Forms.withMessage(TEXT);
        for (int repeat : farFrom(2)) {
            nothing(x, 0, 0, repeat);
        }
        for (int repeat : farFrom(4)) {
            nothing(x, 1, 18, repeat);
        }
        for (int repeat : farFrom(1)) {
            nothing(x, 1, 17, repeat);
            nothing(x, 1, 19, repeat);
            nothing(x, 3, 1, repeat);
        }
        due.is(1, "components(0, 0, 0)", x.components(0, 0, 0));
        due.is(2, "components(0, 0, 1)", x.components(0, 0, 1));
        due.is(1, "components(1, 17, 0)", x.components(1, 17, 0));
        due.is(1, "components(1, 18, 3)", x.components(1, 18, 3));
        due.is(8, "components(1, 19, 0)", x.components(1, 19, 0));
    }

    private static void nothing(SegmentForms x, int segment, int element, int repeat) {
        String parts = "(" + segment + ", " + element + ", " + repeat + " ..)";
        due.is(0, "components" + parts, x.components(segment, element, repeat));
        due.is(-1, "field" + parts, x.field(segment, element, repeat, 0));
        due.is(-1, "letter" + parts, x.letter(segment, element, repeat, 0, 0));
    }

    private static void noSuchComponent() {
        due.by("How many signs a component has; NONE if there is none such");
        SegmentForms x = Forms.withMessage(TEXT);
        noneFrom(1, x, 0, 0, 0);
        noneFrom(2, x, 0, 0, 1);
        noneFrom(1, x, 1, 0, 0);
        noneFrom(1, x, 1, 18, 3);
        noneFrom(8, x, 1, 19, 0);
        noneFrom(1, x, 3, 1, 0);
        // A component that is empty is there.
        due.is(0, "field(1, 0, 0, 0)", x.field(1, 0, 0, 0));
        due.is(0, "field(1, 18, 3, 0)", x.field(1, 18, 3, 0));
        due.is(0, "field(1, 19, 0, 7)", x.field(1, 19, 0, 7));
        due.is(1, "field(1, 19, 0, 6)", x.field(1, 19, 0, 6));
        due.is(3, "field(3, 0, 0, 0)", x.field(3, 0, 0, 0));
        due.is(2, "field(3, 1, 0, 0)", x.field(3, 1, 0, 0));
    }

    private static void noneFrom(int size, SegmentForms x, int segment, int element, int repeat) {
        String parts = "(" + segment + ", " + element + ", " + repeat + ", ";
        for (int component : farFrom(size)) {
            due.is(-1, "field" + parts + component + ")",
                    x.field(segment, element, repeat, component));
            due.is(-1, "letter" + parts + component + ", 0)",
                    x.letter(segment, element, repeat, component, 0));
        }
        due.is(true, "field" + parts + (size - 1) + ") is there",
                x.field(segment, element, repeat, size - 1) >= 0);
    }

    private static void noSuchSign() {
        due.by("Sign i of a component. NONE if there is no such component or sign");
        SegmentForms x = Forms.withMessage(TEXT);
        signs(x, 3, 0, 0, 0, "xyz");
        signs(x, 3, 1, 0, 0, "'+");
        signs(x, 0, 0, 0, 0, "p");
        signs(x, 0, 0, 1, 1, "r");
        signs(x, 1, 0, 0, 0, "");
        signs(x, 1, 17, 0, 0, "");
        signs(x, 1, 18, 2, 0, "c");
        signs(x, 1, 18, 3, 0, "");
        signs(x, 1, 19, 0, 6, "7");
        signs(x, 1, 19, 0, 7, "");
    }

    /** As many elements as there can be; more calls than an object is promised for. */
    private static void mostOfAll() {
        due.by("then elements (20 at most)");
        String segment = "ABC" + "+".repeat(20) + "'";
        SegmentForms x = Forms.withMessage(segment.repeat(59) + "ABC" + "+".repeat(20) + "*a:b'");
        due.is(60, "count(1)", x.count(1));
        for (int i = 0; i < 60; i++) {
            due.is(20, "segment(" + i + ", 1)", x.segment(i, 1));
            due.is(i < 59 ? 1 : 2, "repeats(" + i + ", 19)", x.repeats(i, 19));
            due.is(0, "field(" + i + ", 19, 0, 0)", x.field(i, 19, 0, 0));
            due.is(0, "repeats(" + i + ", 20)", x.repeats(i, 20));
        }
        due.is(2, "components(59, 19, 1)", x.components(59, 19, 1));
        due.is('b', "letter(59, 19, 1, 1, 0)", x.letter(59, 19, 1, 1, 0));
    }

    private static void nothingOfTheMessageAhead() {
        due.by("The text is read, and used up");
        String[] texts = {TEXT, "AAA+a'", "AAA+a*b*c:d'", "AAA'BBB+x:y+z'", "AAA+++a:b:c*d'",
            "AAA+abc:d*e+fg'BBB'"};
        for (String ahead : texts) {
            for (String text : texts) {
                SegmentForms x = Forms.withMessage(ahead);
                Forms.read(x, text);
                due.is(parts(Forms.withMessage(text)), "the parts of " + text + " behind " + ahead,
                        parts(x));
            }
        }
    }

    /** Every part with its size, and every sign. */
    private static String parts(SegmentForms x) {
        StringBuilder all = new StringBuilder();
        for (int segment = 0; segment < x.count(1); segment++) {
            all.append(x.segment(segment, 0)).append('/').append(x.segment(segment, 1));
            for (int element = 0; element < x.segment(segment, 1); element++) {
                all.append('+').append(x.repeats(segment, element));
                for (int repeat = 0; repeat < x.repeats(segment, element); repeat++) {
                    all.append('*').append(x.components(segment, element, repeat));
                    for (int c = 0; c < x.components(segment, element, repeat); c++) {
                        all.append(':').append(x.field(segment, element, repeat, c));
                        all.append(Forms.component(x, segment, element, repeat, c));
                    }
                }
            }
        }
        return all.toString();
    }

    private static void signs(SegmentForms x, int segment, int element, int repeat, int component,
            String signs) {
        String parts = "(" + segment + ", " + element + ", " + repeat + ", " + component + ", ";
        for (int i = 0; i < signs.length(); i++) {
            due.is(signs.charAt(i), "letter" + parts + i + ")",
                    x.letter(segment, element, repeat, component, i));
        }
        for (int i : farFrom(signs.length())) {
            due.is(-1, "letter" + parts + i + ")",
                    x.letter(segment, element, repeat, component, i));
        }
    }
}
