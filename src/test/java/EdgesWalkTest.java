/** The edges of the walk and of groups; each method quotes the document's words. */
public final class EdgesWalkTest {
    private static final Due due = new Due("EdgesWalkTest");
    private static final Checks checks = new Checks(due);

    public static void main(String[] args) {
        noSuchTag();
        noSuchTagAheadOfTheWalk();
        inTheirOrder();
        upToMost();
        lessThanLeast();
        missingInAGroup();
        leftOver();
        neverHeaderOrTrailer();
        groups();
        above();
        fullWalk();
        due.end();
    }

    private static void noSuchTag() {
        due.by("6 a segment whose tag no row of the kind has (at the first such one)");
        checks.checked(6, 1, -1, "AAA 0 9 0", "XXX'");
        checks.checked(6, 1, -1, "AAA 0 9 0", "XXX'YYY'AAA'");
        checks.checked(6, 2, -1, "AAA 0 9 0", "AAA'XXX'AAA'XXX'");
        checks.checked(6, 3, -1, "AAA 0 9 0", "AAA'AAA'XXX'");
        checks.checked(6, 58, -1, "AAA 0 1 0", "AAA'".repeat(57) + "XXX'");
        for (String near : new String[] {"AAB", "ABA", "BAA", "AA0", "A0A"}) {
            checks.checked(6, 1, -1, "AAA 0 9 0", near + "'");
        }
        // Any row of the kind will do, but none of another kind.
        checks.checked(0, -1, -1, "AAA 0 1 0,BBB 0 1 1,CCC 0 1 2,DDD 0 1 3", "AAA'BBB'CCC'DDD'");
        checks.checked(8, 1, -1, "AAA 0 1 0,BBB 0 1 1,CCC 0 1 2,DDD 0 1 3", "DDD'");
        SegmentForms x = Forms.withMessage(Forms.framed(1, "XXX'"));
        Forms.rows(x, 0, "XXX 0 1 0");
        Forms.rows(x, 1, "AAA 0 1 0");
        Forms.rows(x, 2, "XXX 0 1 0");
        due.is(6, "check() with another kind's row", x.check());
        checks.walked(x, Checks.noneOf(3));
    }

    private static void noSuchTagAheadOfTheWalk() {
        due.by("6 is looked for ahead of the walk");
        SegmentForms x = checks.checked(6, 3, -1, "AAA 2 2 0,BBB 1 1 0", "AAA'BBB'XXX'");
        checks.walked(x, Checks.noneOf(5));
        checks.checked(6, 2, -1, "AAA 0 1 0,BBB 1 1 0", "AAA'XXX'");
        checks.checked(6, 4, -1, "AAA 1 1 0", "AAA'AAA'AAA'XXX'");
    }

    private static void inTheirOrder() {
        due.by("rows of one level in their order");
        String rows = "AAA 0 1 0,BBB 0 1 0,CCC 0 1 0";
        checks.checked(0, -1, -1, rows, "AAA'BBB'CCC'");
        checks.checked(0, -1, -1, rows, "AAA'CCC'");
        checks.checked(0, -1, -1, rows, "CCC'");
        checks.checked(8, 2, -1, rows, "BBB'AAA'");
        checks.checked(8, 3, -1, rows, "AAA'CCC'BBB'");
        String grouped = "XXX 0 2 0,AAA 0 1 1,BBB 0 1 1,CCC 0 1 1";
        checks.checked(0, -1, -1, grouped, "XXX'AAA'CCC'XXX'BBB'");
        checks.checked(8, 3, -1, grouped, "XXX'BBB'AAA'");
        checks.checked(8, 4, -1, grouped, "XXX'AAA'CCC'BBB'");
    }

    private static void upToMost() {
        due.by("as often as the segment that is next has the row's tag, up to MOST");
        for (int most = 1; most <= 20; most++) {
            String rows = "AAA 0 " + most + " 0,BBB 0 1 0";
            for (int times = 0; times <= most; times++) {
                checks.checked(0, -1, -1, rows, "AAA'".repeat(times) + "BBB'");
            }
            SegmentForms x = checks.checked(8, 1 + most, -1, rows,
                    "AAA'".repeat(most + 1) + "BBB'");
            due.is(0, "the last one's row", x.segment(most, 2));
            due.is(-1, "the row of what is left over", x.segment(most + 1, 2));
        }
        // What is beyond MOST is the next row's.
        SegmentForms y = checks.checked(0, -1, -1, "AAA 0 2 0,AAA 0 1 0", "AAA'AAA'AAA'");
        checks.walked(y, -1, -1, 0, -1, 0, -1, 1, -1, -1, -1);
        // MOST counts anew for each segment above.
        checks.checked(0, -1, -1, "AAA 0 9 0,BBB 0 2 1", "AAA'BBB'BBB'AAA'BBB'BBB'");
        checks.checked(8, 7, -1, "AAA 0 9 0,BBB 0 2 1", "AAA'BBB'BBB'AAA'BBB'BBB'BBB'");
    }

    private static void lessThanLeast() {
        due.by("a row that was there less often than LEAST is missing (7, at the segment that is "
                + "next)");
        for (int least = 1; least <= 20; least++) {
            String rows = "AAA " + least + " 20 0,BBB 0 1 0";
            checks.checked(7, least, 0, rows, "AAA'".repeat(least - 1));
            checks.checked(7, least, 0, rows, "AAA'".repeat(least - 1) + "BBB'");
            checks.checked(0, -1, -1, rows, "AAA'".repeat(least));
            checks.checked(0, -1, -1, rows, "AAA'".repeat(least) + "BBB'");
            checks.checked(7, least, 0, "AAA " + least + " " + least + " 0",
                    "AAA'".repeat(least - 1));
        }
        checks.checked(0, -1, -1, "AAA 0 1 0", "");
        checks.checked(7, 1, 0, "AAA 1 1 0", "");
        checks.checked(7, 1, 19, "AAA 0 1 0,".repeat(19) + "BBB 1 1 0", "");
        // The first row that is missing is told.
        checks.checked(7, 1, 0, "AAA 1 1 0,BBB 1 1 0", "");
        checks.checked(7, 2, 1, "AAA 1 1 0,BBB 1 1 0,CCC 1 1 0", "AAA'CCC'");
        // A row takes all it can, though the next one of that tag misses it then.
        checks.checked(7, 3, 1, "AAA 0 2 0,AAA 1 1 0", "AAA'AAA'");
        // 7 ahead of 8.
        checks.checked(7, 2, 1, "AAA 1 1 0,BBB 1 1 0", "AAA'AAA'BBB'");
    }

    private static void missingInAGroup() {
        due.by("it is the row's, and the walk goes over the row's group");
        String rows = "AAA 0 3 0,BBB 1 1 1,CCC 2 2 2,DDD 1 1 3,EEE 0 1 0";
        checks.checked(0, -1, -1, rows, "");
        checks.checked(0, -1, -1, rows, "EEE'");
        checks.checked(7, 2, 1, rows, "AAA'");
        checks.checked(7, 2, 1, rows, "AAA'EEE'");
        checks.checked(7, 3, 2, rows, "AAA'BBB'");
        checks.checked(7, 4, 3, rows, "AAA'BBB'CCC'");
        checks.checked(7, 4, 3, rows, "AAA'BBB'CCC'CCC'");
        checks.checked(7, 5, 2, rows, "AAA'BBB'CCC'DDD'");
        checks.checked(0, -1, -1, rows, "AAA'BBB'CCC'DDD'CCC'DDD'");
        SegmentForms x = checks.checked(7, 8, 1, rows, "AAA'BBB'CCC'DDD'CCC'DDD'AAA'EEE'");
        checks.walked(x, -1, -1, 0, -1, 1, 1, 2, 2, 3, 3, 2, 2, 3, 5, 0, -1, -1, -1, -1, -1);
    }

    private static void leftOver() {
        due.by("What is left behind the last row of level 0 is left over (8)");
        checks.checked(8, 2, -1, "AAA 0 1 0", "AAA'AAA'");
        checks.checked(8, 2, -1, "AAA 0 1 0,BBB 0 1 0", "BBB'AAA'");
        checks.checked(8, 2, -1, "AAA 0 1 0,BBB 0 1 0", "BBB'AAA'BBB'AAA'");
        checks.checked(8, 58, -1, "AAA 0 20 0,AAA 0 20 0,AAA 0 17 0", "AAA'".repeat(58));
        checks.checked(0, -1, -1, "AAA 0 20 0,AAA 0 20 0,AAA 0 18 0", "AAA'".repeat(58));
        // The last row of level 0 may have a group, or rows of groups alone behind it.
        checks.checked(8, 3, -1, "AAA 0 1 0,BBB 0 1 1", "AAA'BBB'BBB'");
        checks.checked(8, 1, -1, "AAA 0 1 0,BBB 0 1 1", "BBB'");
        checks.checked(8, 3, -1, "AAA 0 1 0,BBB 0 1 1", "AAA'BBB'AAA'BBB'");
    }

    private static void neverHeaderOrTrailer() {
        due.by("THE WALK over the segments between");
        checks.checked(7, 1, 0, "UNH 1 1 0", "");
        checks.checked(7, 1, 0, "UNT 1 1 0", "");
        checks.checked(0, -1, -1, "UNT 0 1 0,UNH 0 1 0", "");
        SegmentForms x = checks.checked(0, -1, -1, "UNT 1 1 0,UNH 1 1 0", "UNT'UNH'");
        checks.walked(x, -1, -1, 0, -1, 1, -1, -1, -1);
        checks.checked(6, 1, -1, "AAA 0 1 0", "UNT'");
        checks.checked(6, 1, -1, "AAA 0 1 0", "UNH'");
        checks.checked(8, 2, -1, "UNT 0 1 0", "UNT'UNT'");
    }

    private static void groups() {
        due.by("The rows behind a row with greater levels, up to the first that has not, are its "
                + "GROUP");
        // Up to a row of the same level.
        checks.checked(0, -1, -1, "AAA 1 1 0,BBB 1 1 1,CCC 1 1 0", "AAA'BBB'CCC'");
        checks.checked(0, -1, -1, "AAA 0 2 0,BBB 0 1 1,CCC 1 1 0", "AAA'AAA'CCC'");
        checks.checked(8, 3, -1, "AAA 0 2 0,BBB 0 1 1,CCC 1 1 0", "AAA'CCC'AAA'");
        // Up to a row of a lesser level, one or more below.
        checks.checked(0, -1, -1, "AAA 1 2 0,BBB 1 2 1,CCC 1 1 2,DDD 1 1 1,EEE 1 1 0",
                "AAA'BBB'CCC'BBB'CCC'DDD'AAA'BBB'CCC'DDD'EEE'");
        checks.checked(0, -1, -1, "AAA 1 2 0,BBB 1 2 1,CCC 1 2 2,DDD 1 2 3,EEE 1 1 0",
                "AAA'BBB'CCC'DDD'DDD'CCC'DDD'BBB'CCC'DDD'AAA'BBB'CCC'DDD'EEE'");
        checks.checked(8, 7, -1, "AAA 1 2 0,BBB 1 2 1,CCC 1 2 2,DDD 1 2 3,EEE 1 1 0",
                "AAA'BBB'CCC'DDD'DDD'EEE'DDD'");
        // A group of a greater level behind the first of a lesser one is not the first row's.
        SegmentForms x = checks.checked(0, -1, -1, "AAA 1 2 0,BBB 0 1 1,CCC 1 1 0,BBB 0 1 1",
                "AAA'BBB'AAA'CCC'BBB'");
        checks.walked(x, -1, -1, 0, -1, 1, 1, 0, -1, 2, -1, 3, 4, -1, -1);
        // A later row's group has the tag and the level, but is not the earlier row's.
        checks.checked(7, 3, 2, "AAA 1 2 0,BBB 0 1 1,CCC 1 1 0,BBB 0 1 1", "AAA'BBB'BBB'CCC'");
        checks.checked(8, 4, -1, "AAA 0 1 0,BBB 0 1 1,CCC 0 1 2,DDD 0 1 1,CCC 0 1 2",
                "AAA'BBB'CCC'CCC'");
        checks.checked(8, 2, -1, "AAA 0 1 0,BBB 0 1 0,CCC 0 1 1", "AAA'CCC'");
        checks.checked(8, 3, -1, "AAA 0 1 0,BBB 0 1 1,CCC 0 1 1,DDD 0 1 2", "AAA'BBB'DDD'");
        checks.checked(8, 3, -1, "AAA 0 1 0,BBB 0 1 1,CCC 0 1 0,BBB 0 1 1", "AAA'BBB'BBB'");
        // No group: the next row has the same level, or there is none.
        checks.checked(0, -1, -1, "AAA 1 2 0,BBB 1 1 0", "AAA'AAA'BBB'");
        checks.checked(0, -1, -1, "AAA 1 2 0", "AAA'AAA'");
        // Up to the end of the rows.
        checks.checked(0, -1, -1, "AAA 1 2 0,BBB 1 1 1,CCC 0 1 1", "AAA'BBB'CCC'AAA'BBB'CCC'");
        // A group's row has its own tag's segments first, though the row above has that tag too.
        SegmentForms y = checks.checked(0, -1, -1, "AAA 1 2 0,AAA 0 1 1", "AAA'AAA'AAA'AAA'");
        checks.walked(y, -1, -1, 0, -1, 1, 1, 0, -1, 1, 3, -1, -1);
        checks.checked(7, 4, 1, "AAA 1 2 0,AAA 1 1 1", "AAA'AAA'AAA'");
    }

    private static void above() {
        due.by("Each segment that was walked over has its row, and above it the segment of the row "
                + "whose group it is in (NONE at level 0)");
        SegmentForms x = checks.checked(0, -1, -1,
                "AAA 0 9 0,BBB 0 9 1,CCC 0 9 2,DDD 0 9 3,EEE 0 9 1",
                "AAA'BBB'CCC'DDD'DDD'CCC'BBB'CCC'DDD'EEE'AAA'EEE'EEE'");
        checks.walked(x, -1, -1, 0, -1, 1, 1, 2, 2, 3, 3, 3, 3, 2, 2, 1, 1, 2, 7, 3, 8, 4, 1, 0, -1,
                4, 11, 4, 11, -1, -1);
        due.by("NONE without (2, 3 of UNH, UNT, and what was not walked over)");
        SegmentForms over = checks.checked(8, 2, -1, "AAA 0 1 0", "AAA'AAA'AAA'");
        checks.walked(over, -1, -1, 0, -1, -1, -1, -1, -1, -1, -1);
        SegmentForms missing = checks.checked(7, 3, 2, "AAA 0 1 0,BBB 0 1 1,CCC 1 1 2", "AAA'BBB'");
        checks.walked(missing, -1, -1, 0, -1, 1, 1, -1, -1);
        SegmentForms unknown = checks.checked(6, 2, -1, "AAA 0 1 0", "AAA'XXX'");
        checks.walked(unknown, Checks.noneOf(4));
        SegmentForms unchecked = Forms.withMessage(Forms.framed(1, "AAA'"));
        Forms.rows(unchecked, 1, "AAA 1 1 0");
        checks.walked(unchecked, Checks.noneOf(3));
    }

    /** The most rows, the deepest levels and the most segments at once. */
    private static void fullWalk() {
        due.by("ROWS (20 at most)");
        String rows = "AAA 0 20 0,BBB 0 20 1,CCC 0 20 2,DDD 0 20 3,".repeat(4)
                + "AAA 0 20 0,BBB 0 20 1,CCC 0 20 2,DDD 20 20 3";
        checks.checked(0, -1, -1, rows, "AAA'BBB'CCC'DDD'".repeat(14) + "AAA'BBB'");
        checks.checked(7, 59, 19,
                "EEE 0 1 0,".repeat(16) + "AAA 0 20 0,BBB 0 20 1,CCC 0 20 2,DDD 19 20 3",
                "AAA'BBB'CCC'" + "DDD'".repeat(20) + "CCC'" + "DDD'".repeat(20) + "BBB'CCC'"
                        + "DDD'".repeat(12));
        SegmentForms x = checks.checked(0, -1, -1, "EEE 0 1 0,".repeat(19) + "AAA 20 20 0",
                "AAA'".repeat(20));
        due.is(19, "segment(20, 2)", x.segment(20, 2));
    }
}
