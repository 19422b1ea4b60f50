/** The edges of the service signs and of UNA; each method quotes the document's words. */
public final class EdgesSignsTest {
    private static final Due due = new Due("EdgesSignsTest");

    public static void main(String[] args) {
        untold();
        inThisOrder();
        onlyAtTheBeginning();
        tooFew();
        whatServes();
        allDifferent();
        firstOfSeveral();
        due.end();
    }

    private static void signs(SegmentForms x, String signs, String when) {
        for (int k = 0; k < 5; k++) {
            due.is(signs.charAt(k), "count(" + (3 + k) + ") of " + when, x.count(3 + k));
        }
    }

    /** What a text with these service signs, as c e r p n, must be read as. */
    private static void serves(SegmentForms x, String signs) {
        due.is(2, "count(1) with " + signs, x.count(1));
        signs(x, signs, signs);
        due.is(2, "segment(0, 1) with " + signs, x.segment(0, 1));
        due.is(2, "repeats(0, 0) with " + signs, x.repeats(0, 0));
        due.is(2, "components(0, 0, 1) with " + signs, x.components(0, 0, 1));
        due.is("y", "field(0, 0, 1, 1) with " + signs, Forms.component(x, 0, 0, 1, 1));
        due.is(signs, "field(0, 1, 0, 0) with " + signs, Forms.component(x, 0, 1, 0, 0));
    }

    private static String textWith(String signs) {
        StringBuilder text = new StringBuilder();
        for (char c : "ABCevpxcyercrerrrprnnDEFn".toCharArray()) {
            int k = "cerpn".indexOf(c);
            text.append(k < 0 ? c : signs.charAt(k));
        }
        return text.toString();
    }

    private static void untold() {
        due.by("SERVICE SIGNS are, unless told: COMPONENT : , ELEMENT + , RELEASE ? , REPEAT * , "
                + "END '");
        serves(Forms.withMessage(textWith(":+?*'")), ":+?*'");
        SegmentForms x = Forms.withMessage("UNA|~!;^ABC^");
        Forms.read(x, textWith(":+?*'"));
        serves(x, ":+?*'");
    }

    private static void inThisOrder() {
        due.by("A text may begin with UNA and five signs, which are the service signs then, in "
                + "this order");
        for (int order = 0; order < 120; order++) {
            String signs = ordered(order, ":+?*'");
            serves(Forms.withMessage("UNA" + signs + textWith(signs)), signs);
        }
        for (String signs : new String[] {"!~/:@", "[`{}|", "~!'*+", "?+:'*"}) {
            serves(Forms.withMessage("UNA" + signs + textWith(signs)), signs);
        }
        // What is not told any more is a sign like any other.
        SegmentForms x = Forms.withMessage("UNA|~!;^ABC~:+?*'^");
        due.is(":+?*'", "the component", Forms.component(x, 0, 0, 0, 0));
    }

    /** One of the 120 orders of five signs. */
    private static String ordered(int order, String signs) {
        StringBuilder rest = new StringBuilder(signs);
        StringBuilder all = new StringBuilder();
        int number = order;
        for (int left = 5; left > 0; left--) {
            all.append(rest.charAt(number % left));
            rest.deleteCharAt(number % left);
            number /= left;
        }
        return all.toString();
    }

    private static void onlyAtTheBeginning() {
        due.by("A text may begin with UNA");
        SegmentForms x = Forms.withMessage("ABC'UNA+|~!;^'");
        due.is(2, "count(1)", x.count(1));
        due.is(Forms.tag("UNA"), "segment(1, 0)", x.segment(1, 0));
        signs(x, ":+?*'", "UNA as a second segment");
        SegmentForms y = Forms.withMessage("UNA|~!;^UNA~x^");
        due.is(1, "count(1)", y.count(1));
        due.is(Forms.tag("UNA"), "segment(0, 0)", y.segment(0, 0));
        for (String near : new String[] {"TNA", "VNA", "UMA", "UOA", "UNB", "UN0", "ANU"}) {
            due.is(1, "read() of " + near + "+'", Forms.read(new SegmentForms(), near + "+'"));
        }
        due.is(-1 - 0, "read() of una", Forms.read(new SegmentForms(), "una:+?*'ABC'"));
        due.is(-1 - 0, "read() of a blank and UNA",
                Forms.read(new SegmentForms(), " UNA:+?*'ABC'"));
    }

    private static void tooFew() {
        due.by("the text's length, if it ends ahead of an END sign");
        for (int length = 0; length <= 8; length++) {
            String text = "UNA|~!;^".substring(0, length);
            SegmentForms x = new SegmentForms();
            due.is(-1 - length, "read() of " + text, Forms.read(x, text));
            signs(x, ":+?*'", "no message behind " + text);
        }
    }

    private static void whatServes() {
        due.by("they must not be letters, digits or blanks");
        String usual = "!\"#$%";
        for (int k = 0; k < 5; k++) {
            for (char c = 32; c <= 126; c++) {
                if (usual.indexOf(c) >= 0) {
                    continue;
                }
                String signs = usual.substring(0, k) + c + usual.substring(k + 1);
                boolean fine = " 0123456789ABCDEFGHIJKLMNOPQRSTUVWXYZabcdefghijklmnopqrstuvwxyz"
                        .indexOf(c) < 0;
                String text = "UNA" + signs + "ABC" + signs.charAt(4);
                SegmentForms x = new SegmentForms();
                due.is(fine ? 1 : -1 - (3 + k), "read() of " + text, Forms.read(x, text));
                signs(x, fine ? signs : ":+?*'", text);
            }
        }
    }

    private static void allDifferent() {
        due.by("and all be different");
        for (String usual : new String[] {":+?*'", "|~!;^"}) {
            for (int k = 1; k < 5; k++) {
                for (int same = 0; same < k; same++) {
                    StringBuilder signs = new StringBuilder(usual);
                    signs.setCharAt(k, usual.charAt(same));
                    String text = "UNA" + signs + "ABC" + signs.charAt(4);
                    due.is(-1 - (3 + k), "read() of " + text,
                            Forms.read(new SegmentForms(), text));
                }
            }
        }
        due.is(-1 - 4, "read() of five that are the same",
                Forms.read(new SegmentForms(), "UNA:::::ABC:"));
        // The same as an untold sign, or as a sign of the message ahead, is no harm.
        SegmentForms x = Forms.withMessage("UNA|~!;^ABC^");
        due.is(1, "read() of signs told before", Forms.read(x, "UNA^;!~|ABC|"));
        signs(x, "^;!~|", "signs told before");
    }

    private static void firstOfSeveral() {
        due.by("a service sign of UNA at itself");
        wrong(3, "UNAa a 9");
        wrong(3, "UNA |||||");
        wrong(4, "UNA||a||");
        wrong(4, "UNA|9|||");
        wrong(5, "UNA|~|~a");
        wrong(6, "UNA|~!~!");
        wrong(7, "UNA|~!;~x");
        wrong(7, "UNA|~!; ");
        // A wrong sign is told ahead of the text's end, and of what is wrong behind it.
        wrong(3, "UNAx");
        wrong(4, "UNA::");
        wrong(7, "UNA|~!;;'");
        wrong(8, "UNA|~!;^'");
    }

    private static void wrong(int place, String text) {
        due.is(-1 - place, "read() of " + text, Forms.read(new SegmentForms(), text));
    }
}
