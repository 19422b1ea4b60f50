/** The edges of the first wrong place; each method quotes the document's words. */
public final class EdgesPlaceTest {
    private static final Due due = new Due("EdgesPlaceTest");

    public static void main(String[] args) {
        firstOfSeveral();
        endsAheadOfEnd();
        empty();
        behindEnd();
        noMessageThen();
        due.end();
    }

    private static void wrong(int place, String text) {
        due.is(-1 - place, "read() of " + text, Forms.read(new SegmentForms(), text));
    }

    private static void firstOfSeveral() {
        due.by("the first sign that can't stand where it does");
        wrong(0, "aa'");
        wrong(1, "Aa'a");
        wrong(2, "AAa?");
        wrong(3, "AAA?a");
        wrong(4, "AAA'a'a");
        // A wrong sign at the text's end is told, not the end behind it.
        wrong(0, "?");
        wrong(1, "A?");
        wrong(2, "AA?");
        wrong(3, "AAA?");
        wrong(4, "AAA'?");
        // Too many of one thing ahead of too many of another.
        wrong(7, "AAA+****::::::::");
        wrong(11, "AAA+::::::::****");
        wrong(23, "AAA" + "+".repeat(21) + "****");
    }

    /** A right text's beginnings are right behind an END sign, and else wrong at their length. */
    private static void endsAheadOfEnd() {
        due.by("the text's length, if it ends ahead of an END sign");
        beginnings("UNH+7+1'BGM+a:b*c++:'N0D'LOC+?'x??*?:'UNT+6+7'", "'", 0);
        beginnings("UNA|~!;^UNH~x~0^ABC~a!~b;c|^DEF^", "^", 8);
    }

    private static void beginnings(String text, String end, int start) {
        for (int length = 1; length <= text.length(); length++) {
            String beginning = text.substring(0, length);
            String plain = beginning.substring(Math.min(start, length)).replaceAll("[?!].", "..");
            boolean ends = plain.endsWith(end);
            int segments = plain.length() - plain.replace(end, "").length();
            due.is(ends ? segments : -1 - length, "read() of " + beginning,
                    Forms.read(new SegmentForms(), beginning));
        }
    }

    private static void empty() {
        due.by("or is empty");
        wrong(0, "");
        SegmentForms x = Forms.withMessage("ABC'");
        due.is(-1, "read() of nothing behind a message", x.read());
        due.is(-1, "read() of nothing behind nothing", x.read());
        x.add(31);
        x.add(127);
        due.is(-1, "read() behind signs that were refused", x.read());
    }

    private static void behindEnd() {
        due.by("each behind an ELEMENT sign; END");
        wrong(4, "ABC''");
        wrong(4, "ABC'+");
        wrong(4, "ABC' ");
        wrong(6, "ABC+x''");
        wrong(8, "UNA:+?*''");
    }

    private static void noMessageThen() {
        due.by("(there is no message then)");
        for (String text : new String[] {"", "A", "ABC", "ABC+", "ABC'D", "ABC'DEF+x", "ABC'?",
            "UNA", "UNA|~!;;", "UNA|~!;^", "UNA|~!;^ABC", "UNA|~!;^ABC^D", "UNA|~!;^ABC^'"}) {
            SegmentForms x = Forms.withMessage("UNA|~!;^XYZ~old^UNT^");
            x.check();
            due.is(true, "read() of " + text + " is below 0", Forms.read(x, text) < 0);
            Forms.noMessage(due, x, text);
        }
    }
}
