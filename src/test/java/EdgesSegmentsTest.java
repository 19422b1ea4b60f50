/** The edges of segments and their parts when read; each method quotes the document's words. */
public final class EdgesSegmentsTest {
    private static final Due due = new Due("EdgesSegmentsTest");

    public static void main(String[] args) {
        segments();
        tags();
        behindTheTag();
        elements();
        repeats();
        components();
        anySigns();
        released();
        due.end();
    }

    private static SegmentForms right(int segments, String text) {
        SegmentForms x = new SegmentForms();
        due.is(segments, "read() of " + text, Forms.read(x, text));
        due.is(segments, "count(1) of " + text, x.count(1));
        return x;
    }

    private static void wrong(int place, String text) {
        SegmentForms x = Forms.withMessage("XYZ+old'");
        due.is(-1 - place, "read() of " + text, Forms.read(x, text));
        Forms.noMessage(due, x, text);
    }

    private static void segments() {
        due.by("SEGMENTS (60 at most)");
        for (int many : new int[] {1, 2, 59, 60}) {
            right(many, "ABC'".repeat(many));
            right(many, "UNA:+?*'" + "ABC'".repeat(many));
        }
        wrong(0, "");
        due.by("of a segment its first sign");
        wrong(240, "ABC'".repeat(61));
        wrong(240, "ABC'".repeat(60) + "A");
        wrong(240, "ABC'".repeat(60) + "'");
        wrong(240, "ABC'".repeat(60) + "a");
        wrong(248, "UNA:+?*'" + "ABC'".repeat(61));
        wrong(300, "ABC+'".repeat(61));
    }

    private static void tags() {
        due.by("a TAG (a letter A .. Z, two of A .. Z, 0 .. 9)");
        for (char c = 32; c <= 126; c++) {
            boolean capital = c >= 'A' && c <= 'Z';
            boolean digit = c >= '0' && c <= '9';
            tag(0, c, capital);
            tag(1, c, capital || digit);
            tag(2, c, capital || digit);
        }
    }

    private static void tag(int place, char c, boolean fine) {
        StringBuilder tag = new StringBuilder("XYZ");
        tag.setCharAt(place, c);
        if (fine) {
            SegmentForms x = right(2, tag + "'" + tag + "+a'");
            due.is(Forms.tag(tag.toString()), "segment(0, 0)", x.segment(0, 0));
            due.is(Forms.tag(tag.toString()), "segment(1, 0)", x.segment(1, 0));
        } else {
            wrong(place, tag + "'");
            wrong(4 + place, "ABC'" + tag + "'");
            wrong(8 + place, "UNA:+?*'" + tag + "'");
        }
    }

    private static void behindTheTag() {
        due.by("then elements (20 at most), each behind an ELEMENT sign; END");
        for (char c = 32; c <= 126; c++) {
            if (c == '\'' || c == '+') {
                right(1, c == '+' ? "ABC+'" : "ABC'");
            } else {
                wrong(3, "ABC" + c + "'");
                wrong(8, "DEF+'GHI" + c + "+'");
            }
        }
    }

    private static void elements() {
        due.by("then elements (20 at most)");
        for (int many : new int[] {0, 1, 2, 19, 20}) {
            SegmentForms x = right(2, "ABC" + "+".repeat(many) + "'DEF" + "+x".repeat(many) + "'");
            due.is(many, "segment(0, 1)", x.segment(0, 1));
            due.is(many, "segment(1, 1)", x.segment(1, 1));
        }
        due.by("a sign by which there would be too many of something (the ELEMENT, REPEAT or "
                + "COMPONENT sign");
        wrong(23, "ABC" + "+".repeat(21) + "'");
        wrong(43, "ABC" + "+x".repeat(21) + "'");
        wrong(43, "ABC" + "+*".repeat(20) + "+");
        wrong(43, "ABC" + "+:".repeat(20) + "+'");
        wrong(47, "ABC" + "+".repeat(20) + "'DEF" + "+".repeat(20) + "+'");
    }

    private static void repeats() {
        due.by("An element is its repeats (4 at most) with REPEAT signs between them");
        for (int many = 1; many <= 4; many++) {
            String element = "+" + "*".repeat(many - 1);
            SegmentForms x = right(2, "ABC" + element + element + "'DEF" + element + "'");
            due.is(many, "repeats(0, 0)", x.repeats(0, 0));
            due.is(many, "repeats(0, 1)", x.repeats(0, 1));
            due.is(many, "repeats(1, 0)", x.repeats(1, 0));
        }
        right(1, "ABC" + "+***".repeat(20) + "'");
        due.by("a sign by which there would be too many of something (the ELEMENT, REPEAT or "
                + "COMPONENT sign");
        wrong(7, "ABC+****'");
        wrong(7, "ABC+****");
        wrong(11, "ABC+a*b*c*d*e'");
        wrong(11, "ABC+***+****'");
        wrong(15, "ABC+***'DEF+****'");
        wrong(11, "ABC+:*:*:*:*:'");
    }

    private static void components() {
        due.by("a repeat its components (8 at most) with COMPONENT signs between");
        for (int many = 1; many <= 8; many++) {
            String repeat = ":".repeat(many - 1);
            SegmentForms x = right(2, "ABC+" + repeat + "*" + repeat + "+" + repeat + "'DEF+"
                    + repeat + "'");
            due.is(many, "components(0, 0, 0)", x.components(0, 0, 0));
            due.is(many, "components(0, 0, 1)", x.components(0, 0, 1));
            due.is(many, "components(0, 1, 0)", x.components(0, 1, 0));
            due.is(many, "components(1, 0, 0)", x.components(1, 0, 0));
        }
        String full = ":::::::";
        right(1, "ABC" + ("+" + full + "*" + full + "*" + full + "*" + full).repeat(15) + "'");
        due.by("a sign by which there would be too many of something (the ELEMENT, REPEAT or "
                + "COMPONENT sign");
        wrong(11, "ABC+::::::::'");
        wrong(11, "ABC+::::::::");
        wrong(19, "ABC+a:b:c:d:e:f:g:h:i'");
        wrong(19, "ABC+" + full + "*" + full + ":'");
        wrong(19, "ABC+" + full + "+" + full + ":'");
        wrong(23, "ABC+" + full + "'DEF+" + full + ":'");
    }

    private static void anySigns() {
        due.by("A component is any signs but service signs");
        StringBuilder all = new StringBuilder();
        for (char c = 32; c <= 126; c++) {
            if (":+?*'".indexOf(c) < 0) {
                all.append(c);
                SegmentForms x = right(1, "ABC+" + c + "'");
                due.is(1, "field of " + c, x.field(0, 0, 0, 0));
                due.is(c, "letter of " + c, x.letter(0, 0, 0, 0, 0));
            }
        }
        SegmentForms x = right(1, "ABC+" + all + "'");
        due.is(all.toString(), "the component", Forms.component(x, 0, 0, 0, 0));
        SegmentForms none = right(1, "ABC+*:'");
        due.is(0, "field(0, 0, 0, 0)", none.field(0, 0, 0, 0));
        due.is(0, "field(0, 0, 1, 0)", none.field(0, 0, 1, 0));
        due.is(0, "field(0, 0, 1, 1)", none.field(0, 0, 1, 1));
    }

    private static void released() {
        due.by("a RELEASE sign makes the sign behind it a sign like any other (whatever it is, "
                + "also an ordinary one)");
        for (char c = 32; c <= 126; c++) {
            SegmentForms x = right(1, "ABC+?" + c + "'");
            due.is("" + c, "the component of ?" + c, Forms.component(x, 0, 0, 0, 0));
            due.is(1, "segment(0, 1) of ?" + c, x.segment(0, 1));
            SegmentForms told = right(1, "UNA|~!;^ABC~!" + c + "^");
            due.is("" + c, "the component of !" + c, Forms.component(told, 0, 0, 0, 0));
        }
        // Every second RELEASE sign of a row of them is an ordinary one.
        for (int many = 0; many <= 6; many++) {
            String text = "ABC+" + "?".repeat(many) + "'";
            if (many % 2 == 0) {
                due.is(many / 2, "field(0, 0, 0, 0) of " + text, right(1, text).field(0, 0, 0, 0));
            } else {
                wrong(text.length(), text);
            }
        }
        // A released sign makes no part, so there are never too many of it.
        right(1, "ABC+" + "?+".repeat(30) + "'");
        right(1, "ABC+" + "?*".repeat(9) + "?:".repeat(9) + "?'".repeat(70) + "'");
        // Outside a component it can't stand.
        wrong(0, "?ABC'");
        wrong(1, "A?BC'");
        wrong(2, "AB?C'");
        wrong(3, "ABC?+'");
        wrong(4, "ABC'?DEF'");
    }
}
