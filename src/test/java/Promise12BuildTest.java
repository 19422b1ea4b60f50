/** Promise 12: the message is built again. */
public final class Promise12BuildTest {
    private static final Due due = new Due("Promise12BuildTest");

    public static void main(String[] args) {
        same("ABC'");
        same("ABC+x'");
        same("UNH+7+1'BGM+a:b*c'NAD'UNT+6+7'");
        same("ABC" + "+x".repeat(20) + "'");
        same("ABC+a*b*c*d'");
        same("ABC+a:b:c:d:e:f:g:h'");
        same("ABC+ 'DEF+?''");
        same("ABC'".repeat(60));
        leftOut();
        released();
        toldSigns();
        withoutMessage();
        due.end();
    }

    private static void same(String text) {
        built(text, text);
    }

    private static void built(String built, String text) {
        SegmentForms x = Forms.withMessage(text);
        due.is(built.length(), "build() of " + text, x.build());
        due.is(built, "what is built of " + text, Forms.built(x));
        // The message stays as it is.
        due.is(built.length(), "build() of " + text + " once more", x.build());
        due.is(built, "what is built of " + text + " once more", Forms.built(x));
    }

    private static void leftOut() {
        built("ABC'", "ABC+'");
        built("ABC'", "ABC+++'");
        built("ABC'", "ABC+:*:+**'");
        built("ABC+a'", "ABC+a:'");
        built("ABC+a'", "ABC+a::*:*+:*+'");
        built("ABC++a'", "ABC++a'");
        built("ABC++a'", "ABC+:*:+a+'");
        built("ABC+:a'", "ABC+:a:'");
        built("ABC+a::b'", "ABC+a::b::'");
        built("ABC+*a'", "ABC+:*a*'");
        built("ABC+a**b'", "ABC+a:*::*b*:'");
        built("ABC+a*:b+c'", "ABC+a*:b:*+c'");
        built("ABC+++a'DEF'GHI++b'", "ABC+++a++'DEF++'GHI++b:'");
    }

    private static void released() {
        built("ABC+?'?+?:?*??'", "ABC+?'?+?:?*??'");
        built("ABC+ab1 '", "ABC+?a?b?1? '");
        built("ABC+??'", "ABC+??+'");
        built("ABC+?::?:'", "ABC+?::?::'");
    }

    private static void toldSigns() {
        built("ABC~x!~y|!!!;!^;?+:*'a^", "UNA|~!;^ABC~x!~y|!!!;!^;?+:*'!a^");
        built("ABC:x+y?z:a*:'.", "UNA+:*?.ABC:x+y?z:*a*:'.");
        built("ABC+a:b*c?+'", "UNA:+?*'ABC+a:b*c?+::+'");
        // Signs that are told are forgotten with the message.
        SegmentForms x = Forms.withMessage("UNA|~!;^ABC~x|y~?^");
        x.build();
        due.is("ABC~x|y~?^", "the first message", Forms.built(x));
        Forms.read(x, "ABC+x|y+~^!;'");
        x.build();
        due.is("ABC+x|y+~^!;'", "the second message", Forms.built(x));
    }

    private static void withoutMessage() {
        SegmentForms x = new SegmentForms();
        due.thrown(IllegalStateException.class, "build() of a new object", () -> x.build());
        Forms.give(x, "ABC'");
        due.thrown(IllegalStateException.class, "build() ahead of read()", () -> x.build());
        x.read();
        due.is(4, "build()", x.build());
        Forms.read(x, "ABC");
        due.thrown(IllegalStateException.class, "build() behind a wrong text", () -> x.build());
        due.is("ABC'", "what was built last", Forms.built(x));
    }
}
