/** The edges of a grammar and of row; each method quotes the document's words. */
public final class EdgesGrammarTest {
    private static final Due due = new Due("EdgesGrammarTest");
    private static final int ABC = Forms.tag("ABC");
    private static final Class<IllegalArgumentException> ARGUMENT = IllegalArgumentException.class;
    private static final Class<IllegalStateException> STATE = IllegalStateException.class;

    public static void main(String[] args) {
        kinds();
        tags();
        numbers();
        leastAboveMost();
        full();
        firstLevel();
        laterLevels();
        toldFirst();
        refusedRow();
        due.end();
    }

    private static void taken(int rows, SegmentForms x, int kind, int tag, int least, int most,
            int level) {
        due.is(rows, call(kind, tag, least, most, level), x.row(kind, tag, least, most, level));
        due.is(rows, "count(" + (10 + kind) + ")", x.count(10 + kind));
    }

    private static void refused(Class<? extends RuntimeException> thrown, SegmentForms x,
            int kind, int tag, int least, int most, int level) {
        due.thrown(thrown, call(kind, tag, least, most, level),
                () -> x.row(kind, tag, least, most, level));
    }

    private static String call(int kind, int tag, int least, int most, int level) {
        return "row(" + kind + ", " + tag + ", " + least + ", " + most + ", " + level + ")";
    }

    private static void kinds() {
        due.by("A GRAMMAR of a kind 0 .. 3");
        SegmentForms x = new SegmentForms();
        for (int kind = -20; kind < 30; kind++) {
            if (kind >= 0 && kind <= 3) {
                taken(1, x, kind, ABC, 0, 1, 0);
            } else {
                refused(ARGUMENT, x, kind, ABC, 0, 1, 0);
            }
        }
        for (int kind : new int[] {Integer.MIN_VALUE, Integer.MAX_VALUE, 1 << 16, -(1 << 16)}) {
            refused(ARGUMENT, x, kind, ABC, 0, 1, 0);
        }
    }

    private static void tags() {
        due.by("there is no such kind or tag (three signs, the first one highest: 65536 * first + "
                + "256 * second + third)");
        for (int c = 0; c < 256; c++) {
            boolean capital = c >= 'A' && c <= 'Z';
            boolean later = capital || c >= '0' && c <= '9';
            tag(65536 * c + 256 * 'X' + 'Y', capital);
            tag(65536 * 'X' + 256 * c + 'Y', later);
            tag(65536 * 'X' + 256 * 'Y' + c, later);
        }
        tag(65536 * 'A' + 256 * '0' + '0', true);
        tag(65536 * 'Z' + 256 * 'Z' + 'Z', true);
        tag(0, false);
        // Numbers of four signs, and numbers below 0, whose lowest three would be a tag.
        for (int high : new int[] {1, 'A', 127, 128, 255}) {
            tag(ABC + (high << 24), false);
        }
        tag(-ABC, false);
        tag(~ABC, false);
        tag(ABC & 0xFFFF, false);
        tag(Integer.MIN_VALUE, false);
        tag(Integer.MAX_VALUE, false);
    }

    private static void tag(int tag, boolean fine) {
        SegmentForms x = new SegmentForms();
        if (fine) {
            taken(1, x, 0, tag, 0, 1, 0);
        } else {
            refused(ARGUMENT, x, 0, tag, 0, 1, 0);
            due.is(0, "count(10)", x.count(10));
        }
    }

    private static void numbers() {
        due.by("LEAST and MOST (0 .. 20, MOST 1 at least)");
        for (int least = -2; least <= 23; least++) {
            for (int most = -2; most <= 23; most++) {
                SegmentForms x = new SegmentForms();
                if (least >= 0 && most >= 1 && most <= 20 && least <= most) {
                    taken(1, x, 0, ABC, least, most, 0);
                } else {
                    refused(ARGUMENT, x, 0, ABC, least, most, 0);
                }
            }
        }
        due.by("numbers can't be");
        int[] far = {Integer.MIN_VALUE, Integer.MIN_VALUE + 1, Integer.MAX_VALUE, -65536, 65536 + 1,
            256 + 1};
        for (int number : far) {
            refused(ARGUMENT, new SegmentForms(), 0, ABC, number, 1, 0);
            refused(ARGUMENT, new SegmentForms(), 0, ABC, 0, number, 0);
            refused(ARGUMENT, new SegmentForms(), 0, ABC, number, number, 0);
        }
    }

    private static void leastAboveMost() {
        due.by("or LEAST is above MOST");
        for (int most = 1; most <= 20; most++) {
            SegmentForms x = new SegmentForms();
            taken(1, x, 0, ABC, most, most, 0);
            taken(2, x, 0, ABC, most - 1, most, 0);
            refused(ARGUMENT, x, 0, ABC, most + 1, most, 0);
            due.is(2, "count(10)", x.count(10));
        }
    }

    private static void full() {
        due.by("IllegalStateException if there are 20");
        for (int kind = 0; kind < 4; kind++) {
            SegmentForms x = new SegmentForms();
            for (int row = 1; row <= 20; row++) {
                taken(row, x, kind, ABC, 0, 1, (row - 1) % 4);
            }
            for (int level = -1; level <= 4; level++) {
                refused(STATE, x, kind, ABC, 0, 1, level);
            }
            due.is(20, "count(" + (10 + kind) + ")", x.count(10 + kind));
            for (int other = 0; other < 4; other++) {
                if (other != kind) {
                    taken(1, x, other, ABC, 0, 1, 0);
                }
            }
        }
    }

    private static void firstLevel() {
        due.by("a LEVEL: the first row has 0");
        for (int kind = 0; kind < 4; kind++) {
            SegmentForms x = new SegmentForms();
            for (int level : new int[] {-2, -1, 1, 2, 3, 4, 5, 256, 65536, Integer.MIN_VALUE,
                Integer.MAX_VALUE}) {
                refused(STATE, x, kind, ABC, 0, 1, level);
            }
            due.is(0, "count(" + (10 + kind) + ")", x.count(10 + kind));
            taken(1, x, kind, ABC, 0, 1, 0);
        }
        // Another kind's rows are not ahead of it.
        SegmentForms y = new SegmentForms();
        taken(1, y, 0, ABC, 0, 1, 0);
        refused(STATE, y, 1, ABC, 0, 1, 1);
    }

    private static void laterLevels() {
        due.by("each other one at most one more than the row ahead of it (3 at most)");
        for (int ahead = 0; ahead <= 3; ahead++) {
            for (int level = -3; level <= 6; level++) {
                SegmentForms x = new SegmentForms();
                for (int row = 0; row <= ahead; row++) {
                    x.row(0, ABC, 0, 1, row);
                }
                if (level >= 0 && level <= 3 && level <= ahead + 1) {
                    taken(ahead + 2, x, 0, ABC, 0, 1, level);
                } else {
                    refused(STATE, x, 0, ABC, 0, 1, level);
                }
            }
            SegmentForms x = new SegmentForms();
            for (int row = 0; row <= ahead; row++) {
                x.row(0, ABC, 0, 1, row);
            }
            refused(STATE, x, 0, ABC, 0, 1, Integer.MIN_VALUE);
            refused(STATE, x, 0, ABC, 0, 1, Integer.MAX_VALUE);
        }
        // It is the row ahead that counts, not the deepest one.
        SegmentForms y = new SegmentForms();
        Forms.rows(y, 0, "AAA 0 1 0,BBB 0 1 1,CCC 0 1 2,DDD 0 1 0");
        refused(STATE, y, 0, ABC, 0, 1, 2);
        taken(5, y, 0, ABC, 0, 1, 1);
    }

    private static void toldFirst() {
        due.by("Of several exceptions the one told first is thrown");
        SegmentForms empty = new SegmentForms();
        SegmentForms full = new SegmentForms();
        for (int row = 0; row < 20; row++) {
            full.row(0, ABC, 0, 1, 0);
        }
        for (SegmentForms x : new SegmentForms[] {empty, full}) {
            for (int level : new int[] {-1, 1, 4, Integer.MIN_VALUE, Integer.MAX_VALUE}) {
                refused(ARGUMENT, x, -1, ABC, 0, 1, level);
                refused(ARGUMENT, x, 4, ABC, 0, 1, level);
                refused(ARGUMENT, x, 0, ABC + 32, 0, 1, level);
                refused(ARGUMENT, x, 0, ABC, -1, 1, level);
                refused(ARGUMENT, x, 0, ABC, 0, 0, level);
                refused(ARGUMENT, x, 0, ABC, 0, 21, level);
                refused(ARGUMENT, x, 0, ABC, 2, 1, level);
                refused(STATE, x, 0, ABC, 0, 1, level);
            }
        }
        refused(ARGUMENT, full, 0, ABC, 2, 1, 0);
        refused(STATE, full, 0, ABC, 1, 1, 0);
    }

    private static void refusedRow() {
        due.by("One more row of a grammar: how many there are");
        SegmentForms x = Forms.withMessage(Forms.framed(2, "ABC'"));
        refused(STATE, x, 2, ABC, 0, 1, 1);
        due.is(5, "check() when the only row was refused", x.check());
        taken(1, x, 2, ABC, 1, 1, 0);
        refused(ARGUMENT, x, 2, Forms.tag("DEF"), 2, 1, 0);
        refused(STATE, x, 2, Forms.tag("DEF"), 1, 1, 2);
        due.is(0, "check() when the second row was refused", x.check());
        taken(2, x, 2, Forms.tag("DEF"), 1, 1, 1);
        due.is(7, "check() with the second row", x.check());
    }
}
