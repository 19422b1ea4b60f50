/** Promise 13: a sign of what was built last. */
public final class Promise13AtTest {
    public static void main(String[] args) {
        Due due = new Due("Promise13AtTest");
        SegmentForms x = Forms.withMessage("ABC+xyz+12'");
        due.is(0, "at(0) ahead of build()", x.at(0));
        x.build();
        String built = "ABC+xyz+12'";
        for (int i = 0; i < built.length(); i++) {
            due.is(built.charAt(i), "at(" + i + ")", x.at(i));
        }
        for (int i : new int[] {built.length(), 1499, 1500, 1501, 3999}) {
            due.is(0, "at(" + i + ")", x.at(i));
        }
        for (int i : new int[] {-1, 4000, 4001, Integer.MIN_VALUE, Integer.MAX_VALUE}) {
            due.thrown(ArrayIndexOutOfBoundsException.class, "at(" + i + ")", () -> x.at(i));
        }

        // What was built stays until something is built again; nothing of it is left then.
        Forms.read(x, "D00'");
        due.is('A', "at(0) behind read()", x.at(0));
        Forms.read(x, "wrong");
        due.thrown(IllegalStateException.class, "build()", () -> x.build());
        due.is('A', "at(0) behind a build that was refused", x.at(0));
        due.is('\'', "at(10) behind a build that was refused", x.at(10));
        Forms.read(x, "D00'");
        x.build();
        due.is("D00'", "what is built", Forms.built(x));
        due.is(0, "at(4)", x.at(4));
        due.is(0, "at(10)", x.at(10));

        SegmentForms fresh = new SegmentForms();
        due.is(0, "at(3999) of a new object", fresh.at(3999));
        due.thrown(ArrayIndexOutOfBoundsException.class, "at(-1)", () -> fresh.at(-1));
        due.thrown(ArrayIndexOutOfBoundsException.class, "at(4000)", () -> fresh.at(4000));
        due.end();
    }
}
