/** The edges of a new object, of the text and of add; each method quotes the document's words. */
public final class EdgesTextTest {
    private static final Due due = new Due("EdgesTextTest");

    public static void main(String[] args) {
        noText();
        noMessage();
        noGrammars();
        tooSmallOrTooLarge();
        fullText();
        refusedSign();
        usedUp();
        lastPromisedCall();
        due.end();
    }

    private static void noText() {
        due.by("No text");
        due.is(0, "count(0)", new SegmentForms().count(0));
        due.is(-1, "read()", new SegmentForms().read());
        due.is(1, "read() of ABC'", Forms.read(new SegmentForms(), "ABC'"));
    }

    private static void noMessage() {
        due.by("no message");
        SegmentForms x = new SegmentForms();
        Forms.noMessage(due, x, "a new object");
        due.is(0, "count(2)", x.count(2));
        due.is(0, "at(0)", x.at(0));
    }

    private static void noGrammars() {
        due.by("no grammars");
        for (int kind = 0; kind < 4; kind++) {
            SegmentForms x = Forms.withMessage(Forms.framed(kind, ""));
            due.is(0, "count(" + (10 + kind) + ")", x.count(10 + kind));
            due.is(5, "check() of kind " + kind, x.check());
        }
    }

    private static void tooSmallOrTooLarge() {
        due.by("A sign comes to the text: true; false if it is not 32 .. 126");
        for (int c = -200; c < 400; c++) {
            added(c, c >= 32 && c <= 126);
        }
        // Numbers whose lowest eight or sixteen bits would be signs.
        for (int c : new int[] {65 - 256, 65 + 256, 65 + 65536, 65 - 65536, 65 | Integer.MIN_VALUE,
            Integer.MIN_VALUE, Integer.MIN_VALUE + 32, Integer.MAX_VALUE, Integer.MAX_VALUE - 1}) {
            added(c, false);
        }
    }

    private static void added(int c, boolean taken) {
        SegmentForms x = new SegmentForms();
        due.is(taken, "add(" + c + ")", x.add(c));
        due.is(taken ? 1 : 0, "count(0) behind add(" + c + ")", x.count(0));
    }

    // More calls than an object is promised for; the document names the edge all the same.
    private static void fullText() {
        due.by("or there are 1500");
        SegmentForms x = new SegmentForms();
        for (int i = 0; i < 1498; i++) {
            x.add("ABC'".charAt(Math.min(i, 2)));
        }
        due.is(1498, "count(0)", x.count(0));
        due.is(true, "add of sign 1499", x.add(' '));
        due.is(true, "add of sign 1500", x.add('~'));
        due.is(1500, "count(0) when full", x.count(0));
        for (int c : new int[] {'\'', 'A', 32, 126, 31, 127}) {
            due.is(false, "add(" + c + ") when full", x.add(c));
            due.is(1500, "count(0) when full", x.count(0));
        }
        due.is(-1 - 3, "read() when full", x.read());
        due.is(0, "count(0) behind read()", x.count(0));
        due.is(true, "add behind read()", x.add('A'));

        Forms.give(x, "BC+" + "x".repeat(1495));
        due.is(1499, "count(0)", x.count(0));
        Forms.give(x, "''");
        due.is(1, "read() of 1500 signs", x.read());
        due.is(1495, "field(0, 0, 0, 0)", x.field(0, 0, 0, 0));
        due.is('x', "letter 1494", x.letter(0, 0, 0, 0, 1494));
        due.is(-1, "letter 1495", x.letter(0, 0, 0, 0, 1495));
    }

    private static void refusedSign() {
        due.by("THE TEXT is collected sign by sign");
        SegmentForms x = new SegmentForms();
        for (char c : "ABC+a b~'".toCharArray()) {
            x.add(31);
            x.add(c);
            x.add(127);
            x.add(-c);
        }
        due.is(9, "count(0)", x.count(0));
        due.is(1, "read()", x.read());
        due.is("a b~", "the component", Forms.component(x, 0, 0, 0, 0));
    }

    private static void usedUp() {
        due.by("The text is read, and used up");
        for (String text : new String[] {"", "A", "ABC", "ABC'", "ABC'D", "UNA", "UNA:+?*'ABC'"}) {
            SegmentForms x = new SegmentForms();
            Forms.read(x, text);
            due.is(0, "count(0) behind read() of " + text, x.count(0));
            due.is(-1, "read() behind read() of " + text, x.read());
            Forms.noMessage(due, x, "read() of nothing behind " + text);
        }
    }

    private static void lastPromisedCall() {
        due.by("An object is used for at most 512 calls after it has been made");
        SegmentForms x = new SegmentForms();
        for (int call = 1; call <= 511; call++) {
            x.add(call < 4 ? 'A' : call == 4 ? '+' : call < 511 ? 'x' : '\'');
        }
        due.is(1, "read() as call 512", x.read());

        SegmentForms y = new SegmentForms();
        Forms.give(y, "ABC+" + "?+".repeat(252) + "'");
        y.read();
        due.is(509, "build() as call 511", y.build());
        due.is('\'', "at(508) as call 512", y.at(508));
    }
}
