/** Promise 4: one more row of a grammar, or what is wrong with it. */
public final class Promise04RowTest {
    private static final Due due = new Due("Promise04RowTest");
    private static final int ABC = Forms.tag("ABC");

    public static void main(String[] args) {
        wrongArguments();
        wrongLevels();
        full();
        order();
        due.end();
    }

    private static void refused(Class<? extends RuntimeException> thrown, SegmentForms x,
            int kind, int tag, int least, int most, int level) {
        String call = "row(" + kind + ", " + tag + ", " + least + ", " + most + ", " + level + ")";
        due.thrown(thrown, call, () -> x.row(kind, tag, least, most, level));
    }

    private static void wrongArguments() {
        SegmentForms x = new SegmentForms();
        for (int kind : new int[] {-1, 4, 10, Integer.MIN_VALUE, Integer.MAX_VALUE}) {
            refused(IllegalArgumentException.class, x, kind, ABC, 0, 1, 0);
        }
        for (String tag : new String[] {"aBC", "1BC", "AbC", "ABc", "A C", "AB ", "A@C", "A[C",
            "A/C", "A:C", "AB@", "AB[", "AB/", "AB:", "@BC", "[BC"}) {
            refused(IllegalArgumentException.class, x, 0, Forms.tag(tag), 0, 1, 0);
        }
        for (int tag : new int[] {0, -1, 65, ABC + (1 << 24), ABC - (1 << 24), -ABC,
            Integer.MIN_VALUE, Integer.MAX_VALUE, ABC | Integer.MIN_VALUE}) {
            refused(IllegalArgumentException.class, x, 0, tag, 0, 1, 0);
        }
        int[][] numbers = {{-1, 1}, {0, 0}, {0, 21}, {21, 21}, {2, 1}, {20, 19}, {0, -1},
            {Integer.MIN_VALUE, 5}, {0, Integer.MAX_VALUE}, {-2, -1}};
        for (int[] number : numbers) {
            refused(IllegalArgumentException.class, x, 0, ABC, number[0], number[1], 0);
        }
        for (int kind = 0; kind < 4; kind++) {
            due.is(0, "count(" + (10 + kind) + ") behind wrong rows", x.count(10 + kind));
        }
        int[][] fine = {{0, 1}, {1, 1}, {0, 20}, {20, 20}, {19, 20}};
        int rows = 0;
        for (int[] number : fine) {
            rows++;
            due.is(rows, "row of " + number[0] + " to " + number[1],
                    x.row(3, ABC, number[0], number[1], 0));
        }
        for (String tag : new String[] {"A00", "Z99", "AAA", "ZZZ", "UNH", "UNT", "UNA"}) {
            rows++;
            due.is(rows, "row of " + tag, x.row(3, Forms.tag(tag), 0, 1, 0));
        }
        due.is(1, "the first row of another kind", x.row(1, ABC, 0, 1, 0));
        due.is(rows, "count(13)", x.count(13));
    }

    private static void wrongLevels() {
        SegmentForms x = new SegmentForms();
        for (int level : new int[] {1, 2, 3, 4, -1, Integer.MIN_VALUE, Integer.MAX_VALUE}) {
            refused(IllegalStateException.class, x, 0, ABC, 0, 1, level);
        }
        int[] levels = {0, 1, 2, 3, 3, 1, 2, 0, 0, 1, 0};
        int ahead = -1;
        for (int i = 0; i < levels.length; i++) {
            refused(IllegalStateException.class, x, 0, ABC, 0, 1, ahead + 2);
            refused(IllegalStateException.class, x, 0, ABC, 0, 1, 4);
            refused(IllegalStateException.class, x, 0, ABC, 0, 1, -1);
            due.is(i + 1, "row with level " + levels[i], x.row(0, ABC, 0, 1, levels[i]));
            ahead = levels[i];
        }
        // Each kind has a first row of its own.
        refused(IllegalStateException.class, x, 1, ABC, 0, 1, 1);
    }

    private static void full() {
        SegmentForms x = new SegmentForms();
        for (int row = 1; row <= 20; row++) {
            due.is(row, "row " + row, x.row(2, ABC, 0, 1, 0));
        }
        refused(IllegalStateException.class, x, 2, ABC, 0, 1, 0);
        due.is(20, "count(12)", x.count(12));
        due.is(1, "row of a kind that is not full", x.row(3, ABC, 0, 1, 0));
    }

    private static void order() {
        SegmentForms x = new SegmentForms();
        refused(IllegalArgumentException.class, x, 4, ABC, 0, 1, 9);
        refused(IllegalArgumentException.class, x, 0, 0, 0, 1, 1);
        refused(IllegalArgumentException.class, x, 0, ABC, 2, 1, 1);
        for (int row = 1; row <= 20; row++) {
            x.row(0, ABC, 0, 1, 0);
        }
        refused(IllegalArgumentException.class, x, 0, ABC, 0, 0, 0);
        refused(IllegalArgumentException.class, x, 0, 1, 0, 1, 0);
    }
}
