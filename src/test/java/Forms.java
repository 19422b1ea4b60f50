/** Calls that many tests make. */
final class Forms {
    private Forms() {}

    static int tag(String tag) {
        return 65536 * tag.charAt(0) + 256 * tag.charAt(1) + tag.charAt(2);
    }

    static void give(SegmentForms x, String text) {
        for (int i = 0; i < text.length(); i++) {
            x.add(text.charAt(i));
        }
    }

    static int read(SegmentForms x, String text) {
        give(x, text);
        return x.read();
    }

    static SegmentForms withMessage(String text) {
        SegmentForms x = new SegmentForms();
        if (read(x, text) < 1) {
            throw new AssertionError("no message: " + text);
        }
        return x;
    }

    /** Rows as "tag least most level", with commas between. */
    static void rows(SegmentForms x, int kind, String rows) {
        for (String row : rows.split(",")) {
            String[] part = row.trim().split(" ");
            x.row(kind, tag(part[0]), Integer.parseInt(part[1]), Integer.parseInt(part[2]),
                    Integer.parseInt(part[3]));
        }
    }

    /** Puts segments between a header of the kind and a trailer that fits. */
    static String framed(int kind, String between) {
        int segments = 2 + (int) between.chars().filter(c -> c == '\'').count();
        return "UNH+r+" + kind + "'" + between + "UNT+" + segments + "+r'";
    }

    /** What is due of an object that has no message. */
    static void noMessage(Due due, SegmentForms x, String when) {
        due.is(0, "count(1) of " + when, x.count(1));
        due.thrown(IllegalStateException.class, "check() of " + when, () -> x.check());
        due.thrown(IllegalStateException.class, "build() of " + when, () -> x.build());
        due.thrown(IndexOutOfBoundsException.class, "segment(0, 0) of " + when,
                () -> x.segment(0, 0));
        for (int what = 0; what < 3; what++) {
            due.is(-1, "fault(" + what + ") of " + when, x.fault(what));
        }
        for (int k = 0; k < 5; k++) {
            due.is(":+?*'".charAt(k), "count(" + (3 + k) + ") of " + when, x.count(3 + k));
        }
    }

    /** What was built last. */
    static String built(SegmentForms x) {
        StringBuilder all = new StringBuilder();
        for (int i = 0; i < x.count(2); i++) {
            all.append((char) x.at(i));
        }
        return all.toString();
    }

    static String component(SegmentForms x, int segment, int element, int repeat, int component) {
        StringBuilder all = new StringBuilder();
        for (int i = 0; i < x.field(segment, element, repeat, component); i++) {
            all.append((char) x.letter(segment, element, repeat, component, i));
        }
        return all.toString();
    }
}
