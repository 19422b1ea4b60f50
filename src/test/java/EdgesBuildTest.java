/** The edges of build and at; each method quotes the document's words. */
public final class EdgesBuildTest {
    private static final Due due = new Due("EdgesBuildTest");

    public static void main(String[] args) {
        withoutUna();
        released();
        leftOut();
        full();
        withoutMessage();
        belowAndAbove();
        whereThereIsNone();
        builtLast();
        due.end();
    }

    private static void built(String built, String text) {
        SegmentForms x = Forms.withMessage(text);
        due.is(built.length(), "build() of " + text, x.build());
        due.is(built.length(), "count(2) of " + text, x.count(2));
        due.is(built, "what is built of " + text, Forms.built(x));
        due.is(0, "at(" + built.length() + ") of " + text, x.at(built.length()));
    }

    private static void withoutUna() {
        due.by("BUILT is a message with the service signs of the text: without UNA");
        built("ABC'", "UNA:+?*'ABC'");
        built("ABC^", "UNA|~!;^ABC^");
        built("UNA^", "UNA|~!;^UNA^");
        built("ABC~a|b;c~!~:+?*'^DEF^", "UNA|~!;^ABC~a|b;c~!~:+?*'^DEF^");
        built("ABC'UNA+x'", "ABC'UNA+x'");
    }

    private static void released() {
        due.by("RELEASE ahead of each service sign in components");
        for (char c = 32; c <= 126; c++) {
            built("ABC+" + (":+?*'".indexOf(c) < 0 ? "" : "?") + c + "'", "ABC+?" + c + "'");
            built("ABC~" + ("|~!;^".indexOf(c) < 0 ? "" : "!") + c + "^",
                    "UNA|~!;^ABC~!" + c + "^");
        }
        built("ABC+?:?+???*?''", "ABC+?:?+???*?''");
        built("ABC+" + "??".repeat(200) + "'", "ABC+" + "??".repeat(200) + "'");
        built("ABC+" + "a".repeat(200) + "'", "ABC+" + "?a".repeat(200) + "'");
        // A component of a released sign alone is not empty.
        built("ABC+: '", "ABC+:? :'");
        built("ABC+?:'", "ABC+?:::'");
        built("ABC++?+'", "ABC++?++'");
        built("ABC+*?*'", "ABC+*?**'");
    }

    /** Every text of up to seven signs behind the tag that has no released sign. */
    private static void leftOut() {
        due.by("components that are empty and have none behind them in their repeat that is not "
                + "are left out, so repeats that are left with nothing, and elements");
        for (int length = 0; length <= 7; length++) {
            for (int number = 0; number < 1 << 2 * length; number++) {
                leftOutOf("ABC+" + signsOf(number, length) + "'");
            }
        }
        built("ABC'DEF+a'GHI'", "ABC+:*:+'DEF+a::+'GHI+**'");
        built("ABC'", "ABC" + "+:::::::*:::::::*:::::::*:::::::".repeat(15) + "'");
        built("ABC" + "+".repeat(20) + "***:::::::x'", "ABC" + "+".repeat(20) + "***:::::::x'");
        built("ABC'", "ABC" + "+".repeat(20) + "'");
    }

    private static String signsOf(int number, int length) {
        StringBuilder signs = new StringBuilder();
        for (int i = 0; i < length; i++) {
            signs.append("a:*+".charAt(number >> 2 * i & 3));
        }
        return signs.toString();
    }

    private static void leftOutOf(String text) {
        SegmentForms x = new SegmentForms();
        if (Forms.read(x, text) > 0) {
            String kept = text.replaceAll(":+(?=[*+'])", "").replaceAll("\\*+(?=[+'])", "")
                    .replaceAll("\\++(?=')", "");
            due.is(kept.length(), "build() of " + text, x.build());
            due.is(kept, "what is built of " + text, Forms.built(x));
        }
    }

    private static void full() {
        due.by("The message is BUILT: how many signs");
        built("ABC'", "ABC'");
        built("ABC'".repeat(60), "ABC'".repeat(60));
        built("ABC" + "+x".repeat(20) + "'", "ABC" + "+x".repeat(20) + "'");
        built("ABC+a*b*c*d'", "ABC+a*b*c*d'");
        built("ABC+a:b:c:d:e:f:g:h'", "ABC+a:b:c:d:e:f:g:h'");
        built("ABC+" + "x".repeat(1495) + "'", "ABC+" + "x".repeat(1495) + "'");
        built("ABC+" + "?'".repeat(747) + "x'", "ABC+" + "?'".repeat(747) + "x'");
    }

    private static void withoutMessage() {
        due.by("IllegalStateException without one");
        SegmentForms x = new SegmentForms();
        refused(x, "a new object");
        Forms.give(x, "ABC'");
        refused(x, "an object with a text");
        x.read();
        due.is(4, "build()", x.build());
        due.is(4, "build() once more", x.build());
        x.read();
        refused(x, "an object that has read nothing");
        due.is("ABC'", "what was built last", Forms.built(x));
        Forms.read(x, "ABC+x");
        refused(x, "an object that has read a wrong text");
        due.is("ABC'", "what was built last", Forms.built(x));
    }

    private static void refused(SegmentForms x, String when) {
        due.thrown(IllegalStateException.class, "build() of " + when, () -> x.build());
    }

    private static void belowAndAbove() {
        due.by("ArrayIndexOutOfBoundsException below 0 or from 4000 on");
        SegmentForms fresh = new SegmentForms();
        SegmentForms built = Forms.withMessage("ABC'");
        built.build();
        for (SegmentForms x : new SegmentForms[] {fresh, built}) {
            for (int i : new int[] {-1, -2, -4000, Integer.MIN_VALUE, Integer.MIN_VALUE + 1, 4000,
                4001, 65536, Integer.MAX_VALUE, Integer.MAX_VALUE - 1}) {
                due.thrown(ArrayIndexOutOfBoundsException.class, "at(" + i + ")", () -> x.at(i));
            }
            due.is(0, "at(3999)", x.at(3999));
            due.is(0, "at(3998)", x.at(3998));
        }
        due.is('A', "at(0)", built.at(0));
    }

    private static void whereThereIsNone() {
        due.by("0 where there is none");
        SegmentForms x = Forms.withMessage("ABC+xyz'");
        for (int i : new int[] {0, 1, 7, 8, 1499, 1500, 3999}) {
            due.is(0, "at(" + i + ") ahead of build()", x.at(i));
        }
        x.build();
        for (int i = 0; i < 4000; i++) {
            due.is(i < 8 ? "ABC+xyz'".charAt(i) : 0, "at(" + i + ")", x.at(i));
        }
    }

    private static void builtLast() {
        due.by("Sign i of what was built last");
        SegmentForms x = Forms.withMessage("ABC+xyz'");
        x.build();
        Forms.give(x, "DEF'");
        due.is("ABC+xyz'", "what was built, with a text", Forms.built(x));
        x.read();
        due.is("ABC+xyz'", "what was built, with another message", Forms.built(x));
        x.check();
        due.is(8, "count(2)", x.count(2));
        due.is(4, "build()", x.build());
        due.is("DEF'", "what was built", Forms.built(x));
        for (int i = 4; i < 10; i++) {
            due.is(0, "at(" + i + ") of a shorter one", x.at(i));
        }
    }
}
