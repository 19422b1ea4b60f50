/** Promise 3: the text is read and used up: the segments, or the first wrong place. */
public final class Promise03ReadTest {
    private static final Due due = new Due("Promise03ReadTest");

    public static void main(String[] args) {
        segments();
        wrongTags();
        endsEarly();
        serviceSigns();
        tooMany();
        released();
        usedUp();
        due.end();
    }

    private static void right(int segments, String text) {
        due.is(segments, "read() of " + text, Forms.read(new SegmentForms(), text));
    }

    private static void wrong(int place, String text) {
        due.is(-1 - place, "read() of " + text, Forms.read(new SegmentForms(), text));
    }

    private static void segments() {
        right(1, "ABC'");
        right(1, "A00'");
        right(1, "Z9Z'");
        right(3, "UNH'BGM+a:b*c++:'UNT'");
        right(1, "ABC+'");
        right(1, "ABC+*:'");
        right(1, "ABC+ !\"#$%&(),-./09;<=>@AZ[\\]^_`az{|}~'");
        right(2, "ABC'UNA'");
    }

    private static void wrongTags() {
        wrong(0, "aBC'");
        wrong(0, "1BC'");
        wrong(0, "'ABC'");
        wrong(0, "+ABC'");
        wrong(0, " ABC'");
        wrong(0, "?ABC'");
        wrong(0, "@BC'");
        wrong(0, "[BC'");
        wrong(1, "AbC'");
        wrong(1, "A'");
        wrong(1, "A/C'");
        wrong(1, "A:C'");
        wrong(1, "A?BC'");
        wrong(2, "ABc'");
        wrong(2, "AB'");
        wrong(2, "AB+x'");
        wrong(2, "AB@'");
        wrong(2, "AB['");
        wrong(3, "ABCD'");
        wrong(3, "ABC1'");
        wrong(3, "ABC:x'");
        wrong(3, "ABC*x'");
        wrong(3, "ABC?+x'");
        wrong(3, "ABC 'x");
        wrong(4, "ABC' DEF'");
        wrong(4, "ABC''");
        wrong(4, "ABC'1EF'");
        wrong(9, "ABC+x'DEFx'");
    }

    private static void endsEarly() {
        wrong(0, "");
        wrong(1, "A");
        wrong(2, "AB");
        wrong(2, "UN");
        wrong(3, "ABC");
        wrong(4, "ABC+");
        wrong(5, "ABC+x");
        wrong(6, "ABC+x:");
        wrong(6, "ABC+x*");
        wrong(5, "ABC+?");
        wrong(6, "ABC+?'");
        wrong(5, "ABC'D");
        wrong(7, "ABC'DEF");
        wrong(9, "UNA:+?*'A");
    }

    private static void serviceSigns() {
        right(1, "UNA:+?*'ABC'");
        right(1, "UNA|~!;^ABC~x!~y^");
        right(1, "UNA\"#$%&ABC#x$%y&");
        right(1, "UNA@`{}[ABC`x{[y[");
        right(2, "UNA+:'?*ABC:x*DEF*");
        for (int k = 0; k < 5; k++) {
            for (char bad : "AZaz09 ".toCharArray()) {
                StringBuilder signs = new StringBuilder(":+?*'");
                signs.setCharAt(k, bad);
                wrong(3 + k, "UNA" + signs + "ABC'");
            }
            for (int same = 0; same < k; same++) {
                StringBuilder signs = new StringBuilder(":+?*'");
                signs.setCharAt(k, signs.charAt(same));
                wrong(3 + k, "UNA" + signs + "ABC'");
            }
            wrong(3 + k, "UNA" + ":+?*'".substring(0, k));
        }
        // What stands around the letters and digits may serve.
        right(1, "UNA/:@[`ABC`");
        right(1, "UNA{~!;^ABC^");
        // The untold signs are ordinary ones then, and the told ones no longer ordinary.
        wrong(11, "UNA|~!;^ABC'");
        wrong(11, "UNA|~!;^ABC+x^");
        wrong(17, "UNA|~!;^ABC~x+y'z");
        // There is no segment behind UNA.
        wrong(8, "UNA:+?*'");
        // UNA is no tag at the text's beginning.
        wrong(4, "UNA+x'");
        wrong(4, "UNA''");
    }

    private static void tooMany() {
        right(60, "ABC'".repeat(60));
        wrong(240, "ABC'".repeat(61));
        wrong(240, "ABC'".repeat(60) + "?");
        wrong(248, "UNA:+?*'" + "ABC'".repeat(60) + "D");
        right(1, "ABC" + "+".repeat(20) + "'");
        wrong(23, "ABC" + "+".repeat(21) + "'");
        wrong(43, "ABC" + "+x".repeat(21) + "'");
        right(2, "ABC" + "+".repeat(20) + "'DEF" + "+".repeat(20) + "'");
        right(1, "ABC+***+***'");
        wrong(7, "ABC+****'");
        wrong(11, "ABC+a*b*c*d*e'");
        right(1, "ABC+:::::::'");
        wrong(11, "ABC+::::::::'");
        right(1, "ABC+:::::::*:::::::+:::::::'");
        wrong(19, "ABC+:::::::*::::::::'");
        // Released signs are not counted.
        right(1, "ABC+" + "?+".repeat(21) + "'");
        right(1, "ABC+" + "?*".repeat(5) + "'");
        right(1, "ABC+" + "?:".repeat(9) + "'");
    }

    private static void released() {
        SegmentForms x = Forms.withMessage("ABC+?'?+?:?*??+?a? ?1b'");
        due.is(2, "segment(0, 1)", x.segment(0, 1));
        due.is("'+:*?", "field(0, 0, 0, 0)", Forms.component(x, 0, 0, 0, 0));
        due.is("a 1b", "field(0, 1, 0, 0)", Forms.component(x, 0, 1, 0, 0));
        SegmentForms y = Forms.withMessage("UNA|~!;^ABC~!~!|!;!^!!~?'+:*^");
        due.is("~|;^!", "field(0, 0, 0, 0)", Forms.component(y, 0, 0, 0, 0));
        due.is("?'+:*", "field(0, 1, 0, 0)", Forms.component(y, 0, 1, 0, 0));
    }

    private static void usedUp() {
        SegmentForms x = new SegmentForms();
        due.is(1, "read() of the first text", Forms.read(x, "UNA|~!;^ABC~x|y^"));
        due.is(0, "count(0) behind read()", x.count(0));
        Forms.give(x, "DEF'");
        due.is(Forms.tag("ABC"), "segment(0, 0) while a text is collected", x.segment(0, 0));
        due.is('|', "count(3) while a text is collected", x.count(3));
        Forms.give(x, "GHI+z'");
        due.is(2, "read() of the second text", x.read());
        due.is(Forms.tag("DEF"), "segment(0, 0)", x.segment(0, 0));
        due.is(0, "segment(0, 1)", x.segment(0, 1));
        due.is(1, "segment(1, 1)", x.segment(1, 1));
        due.is("z", "field(1, 0, 0, 0)", Forms.component(x, 1, 0, 0, 0));
        due.is(-1 - 3, "read() of a wrong text", Forms.read(x, "UNAx"));
        due.is(0, "count(0) behind a wrong text", x.count(0));
        due.is(0, "count(1) behind a wrong text", x.count(1));
        due.thrown(IllegalStateException.class, "build()", () -> x.build());
        due.is(-1, "read() of nothing", x.read());
        due.is(1, "read() of the last text", Forms.read(x, "JKL'"));
        due.is(-1, "read() of nothing again", x.read());
        // Nothing is left of where a wrong text ended.
        for (String early : new String[] {"A", "AB", "ABC", "ABC+x", "ABC+?", "ABC'+"}) {
            Forms.read(x, early);
            due.is(1, "read() behind " + early, Forms.read(x, "MNO+p'"));
            due.is("p", "field(0, 0, 0, 0) behind " + early, Forms.component(x, 0, 0, 0, 0));
        }
        Forms.read(x, "ABC+a:b*c'DEF+d'");
        Forms.read(x, "GHI+e*f:g*h'");
        due.is(3, "repeats(0, 0) of the message behind another", x.repeats(0, 0));
        due.is(2, "components(0, 0, 1) of the message behind another", x.components(0, 0, 1));
        due.is("g", "field(0, 0, 1, 1) of the message behind another",
                Forms.component(x, 0, 0, 1, 1));
        Forms.read(x, "wrong");
        due.is(0, "count(1) behind nothing", x.count(1));
    }
}
