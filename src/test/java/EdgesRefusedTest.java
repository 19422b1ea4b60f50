/** A call that is refused changes nothing, whatever stands in the object. */
public final class EdgesRefusedTest {
    private interface Act {
        void on(SegmentForms x);
    }

    private static final Due due = new Due("EdgesRefusedTest");
    private static final int AAA = Forms.tag("AAA");

    // Calls that the document refuses in every state.
    private static final Act[] ALWAYS = {
        x -> x.add(31), x -> x.add(127), x -> x.add(-1), x -> x.add(Integer.MAX_VALUE),
        x -> x.row(-1, AAA, 0, 1, 0), x -> x.row(4, AAA, 0, 1, 0), x -> x.row(1, 0, 0, 1, 0),
        x -> x.row(1, AAA, -1, 1, 0), x -> x.row(1, AAA, 0, 0, 0), x -> x.row(1, AAA, 0, 21, 0),
        x -> x.row(1, AAA, 2, 1, 0), x -> x.row(1, AAA, 0, 1, -1), x -> x.row(1, AAA, 0, 1, 4),
        x -> x.fault(-1), x -> x.fault(3), x -> x.count(-1), x -> x.count(8), x -> x.count(14),
        x -> x.segment(-1, 0), x -> x.segment(60, 0), x -> x.segment(0, -1), x -> x.segment(0, 4),
        x -> x.repeats(-1, 0), x -> x.repeats(60, 0), x -> x.components(-1, 0, 0),
        x -> x.components(60, 0, 0), x -> x.field(-1, 0, 0, 0), x -> x.field(60, 0, 0, 0),
        x -> x.letter(-1, 0, 0, 0, 0), x -> x.letter(60, 0, 0, 0, 0), x -> x.at(-1),
        x -> x.at(4000)};

    private static final Act[] WITHOUT_MESSAGE = {x -> x.check(), x -> x.build(),
        x -> x.segment(0, 0)};

    public static void main(String[] args) {
        due.by("false if it is not 32 .. 126, or there are 1500");
        fullText();
        due.by("IllegalStateException if there are 20, or the LEVEL can't be");
        fullGrammar();
        due.by("Nothing is promised beyond the answers and state changes described above");
        inEveryState();
        due.end();
    }

    private static void refused(SegmentForms x, String when, Act[] acts) {
        for (int i = 0; i < acts.length; i++) {
            String before = state(x);
            try {
                acts[i].on(x);
            } catch (IllegalArgumentException | IllegalStateException
                    | IndexOutOfBoundsException e) {
                // What is thrown is looked at elsewhere.
            }
            due.is(before, "the state of " + when + " behind call " + i, state(x));
        }
    }

    private static void inEveryState() {
        SegmentForms fresh = new SegmentForms();
        refused(fresh, "a new object", ALWAYS);
        refused(fresh, "a new object", WITHOUT_MESSAGE);
        due.is(-1, "read()", fresh.read());

        SegmentForms text = new SegmentForms();
        Forms.give(text, "ABC+x'");
        refused(text, "a text", ALWAYS);
        refused(text, "a text", WITHOUT_MESSAGE);
        due.is(1, "read()", text.read());
        due.is("x", "the component", Forms.component(text, 0, 0, 0, 0));

        SegmentForms message = worked();
        refused(message, "a message", ALWAYS);
        due.is(7, "check()", message.check());
        due.is(22, "build()", message.build());
        due.is(1, "read()", message.read());

        SegmentForms wrong = worked();
        Forms.give(wrong, "'");
        wrong.read();
        refused(wrong, "a wrong text", ALWAYS);
        refused(wrong, "a wrong text", WITHOUT_MESSAGE);
        due.is(-1, "read()", wrong.read());
    }

    /** A message that was checked and built, with told signs and a text to come. */
    private static SegmentForms worked() {
        SegmentForms x = Forms.withMessage("UNA|~!;^UNH~r~1^AAA~x^UNT~3~r^");
        Forms.rows(x, 1, "AAA 1 1 0,BBB 1 1 1");
        x.check();
        x.build();
        Forms.give(x, "ABC+x'");
        return x;
    }

    private static void fullText() {
        SegmentForms x = new SegmentForms();
        Forms.give(x, "ABC+" + "x".repeat(1495) + "'");
        refused(x, "a full text", new Act[] {y -> y.add('a'), y -> y.add('\''), y -> y.add(31)});
        due.is(1, "read()", x.read());
        due.is(1495, "field(0, 0, 0, 0)", x.field(0, 0, 0, 0));
    }

    private static void fullGrammar() {
        SegmentForms x = Forms.withMessage(Forms.framed(1, "AAA'"));
        refused(x, "no rows", new Act[] {y -> y.row(1, AAA, 0, 1, 1)});
        for (int row = 0; row < 20; row++) {
            x.row(1, AAA, 0, 1, 0);
        }
        x.check();
        refused(x, "full rows", new Act[] {y -> y.row(1, AAA, 1, 1, 0),
            y -> y.row(1, AAA, 1, 1, 1), y -> y.row(1, Forms.tag("BBB"), 1, 1, 0)});
        due.is(0, "check()", x.check());
    }

    /** All that the face tells of an object without changing it. */
    private static String state(SegmentForms x) {
        StringBuilder all = new StringBuilder();
        for (int what = 0; what < 14; what++) {
            all.append(x.count(what)).append(' ');
        }
        for (int what = 0; what < 3; what++) {
            all.append(x.fault(what)).append(' ');
        }
        for (int segment = 0; segment < x.count(1); segment++) {
            for (int what = 0; what < 4; what++) {
                all.append(x.segment(segment, what)).append(' ');
            }
            for (int element = 0; element < x.segment(segment, 1); element++) {
                all.append(Forms.component(x, segment, element, 0, 0)).append(' ');
            }
        }
        return all.append(Forms.built(x)).toString();
    }
}
