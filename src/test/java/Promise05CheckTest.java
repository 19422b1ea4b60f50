/** Promise 5: the message is checked: 0, or the first of what is wrong. */
public final class Promise05CheckTest {
    private static final Due due = new Due("Promise05CheckTest");

    public static void main(String[] args) {
        frame();
        number();
        reference();
        kind();
        firstOfSeveral();
        walk();
        groups();
        grammarsOfTheMoment();
        withoutMessage();
        due.end();
    }

    private static void answer(int answer, String rows, String text) {
        SegmentForms x = Forms.withMessage(text);
        Forms.rows(x, 1, rows);
        due.is(answer, "check() of " + text + " with " + rows, x.check());
    }

    private static void frame() {
        answer(1, "ABC 0 9 0", "ABC'");
        answer(1, "ABC 0 9 0", "UNT+1+r'");
        answer(1, "ABC 0 9 0", "UNG+r+1'UNT+2+r'");
        answer(2, "ABC 0 9 0", "UNH+r+1'");
        answer(2, "ABC 0 9 0", "UNH+r+1'ABC'");
        answer(2, "ABC 0 9 0", "UNH+r+1'UNT+2+r'ABC'");
        answer(2, "ABC 0 9 0", "UNH+r+1'UNH+2+r'");
        answer(0, "ABC 0 9 0", "UNH+r+1'UNT+2+r'");
    }

    private static void number() {
        for (String wrong : new String[] {"", "+", "+1+r", "+3+r", "+02+r", "+20+r", "+2 +r",
            "+ 2+r", "++r", "+:2+r", "+*2+r", "+x+r", "+12+r", "+22+r"}) {
            answer(3, "ABC 0 9 0", "UNH+r+1'UNT" + wrong + "'");
        }
        answer(0, "ABC 0 9 0", "UNH+r+1'UNT+2:9*9+r'");
        answer(0, "ABC 0 9 0", "UNH+r+1'UNT+?2+r'");
        String ten = "UNH+r+1'" + "ABC'".repeat(8) + "UNT+";
        answer(0, "ABC 0 9 0", ten + "10+r'");
        answer(3, "ABC 0 9 0", ten + "0+r'");
        answer(3, "ABC 0 9 0", ten + "1+r'");
        answer(3, "ABC 0 9 0", ten + "01+r'");
        answer(3, "ABC 0 9 0", ten + "010+r'");
        answer(3, "ABC 0 9 0", ten + "110+r'");
        String sixty = "UNH+r+1'" + "ABC'".repeat(58) + "UNT+";
        answer(0, "ABC 0 20 0,ABC 0 20 0,ABC 0 20 0", sixty + "60+r'");
        answer(3, "ABC 0 20 0,ABC 0 20 0,ABC 0 20 0", sixty + "61+r'");
    }

    private static void reference() {
        answer(4, "ABC 0 9 0", "UNH+r+1'UNT+2'");
        answer(4, "ABC 0 9 0", "UNH+r+1'UNT+2+'");
        answer(4, "ABC 0 9 0", "UNH+r+1'UNT+2+s'");
        answer(4, "ABC 0 9 0", "UNH+r+1'UNT+2+rr'");
        answer(4, "ABC 0 9 0", "UNH+rr+1'UNT+2+r'");
        answer(4, "ABC 0 9 0", "UNH+rs+1'UNT+2+rt'");
        answer(4, "ABC 0 9 0", "UNH+r+1'UNT+2+:r'");
        answer(4, "ABC 0 9 0", "UNH'UNT+2+r'");
        answer(4, "ABC 0 9 0", "UNH'UNT+2+'");
        answer(4, "ABC 0 9 0", "UNH'UNT+2'");
        answer(4, "ABC 0 9 0", "UNH++1'UNT+2'");
        answer(0, "ABC 0 9 0", "UNH++1'UNT+2+'");
        answer(0, "ABC 0 9 0", "UNH+:a+1'UNT+2+*b'");
        answer(0, "ABC 0 9 0", "UNH+r:a*b+1'UNT+2+r:c*d'");
        answer(0, "ABC 0 9 0", "UNH+?+?r+1'UNT+2+?+r'");
    }

    private static void kind() {
        for (String wrong : new String[] {"", "+", "+4", "+9", "+a", "+/", "+01", "+11", "+1 ",
            "+?+", "+:1", "+*1", "+0", "+2", "+3", "+ "}) {
            answer(5, "ABC 0 9 0", "UNH+r" + wrong + "'UNT+2+r'");
        }
        answer(0, "ABC 0 9 0", "UNH+r+1:2*3'UNT+2+r'");
        answer(0, "ABC 0 9 0", "UNH+r+?1'UNT+2+r'");
        for (int kind = 0; kind < 4; kind++) {
            for (int told = 0; told < 4; told++) {
                SegmentForms x = Forms.withMessage(Forms.framed(told, ""));
                Forms.rows(x, kind, "ABC 0 1 0");
                due.is(told == kind ? 0 : 5, "check() of kind " + told + ", rows of " + kind,
                        x.check());
            }
        }
    }

    private static void firstOfSeveral() {
        answer(1, "ABC 1 1 0", "ABC+s+7'XYZ'ABC+9+t'");
        answer(2, "ABC 1 1 0", "UNH+s+7'XYZ'ABC+9+t'");
        answer(3, "ABC 1 1 0", "UNH+s+7'XYZ'UNT+9+t'");
        answer(4, "ABC 1 1 0", "UNH+s+7'XYZ'UNT+3+t'");
        answer(5, "ABC 1 1 0", "UNH+s+7'XYZ'UNT+3+s'");
        answer(6, "ABC 1 1 0", "UNH+s+1'XYZ'UNT+3+s'");
        // 6 is looked for in all segments ahead of the walk.
        answer(6, "ABC 2 2 0,DEF 1 1 0", Forms.framed(1, "ABC'ABC'ABC'XYZ'"));
        answer(7, "ABC 2 2 0,DEF 1 1 0", Forms.framed(1, "ABC'ABC'ABC'"));
        answer(8, "ABC 2 2 0,DEF 0 1 0", Forms.framed(1, "ABC'ABC'ABC'"));
    }

    private static void walk() {
        String rows = "ABC 1 2 0,DEF 0 1 0,ABC 0 1 0";
        answer(7, rows, Forms.framed(1, ""));
        answer(7, rows, Forms.framed(1, "DEF'"));
        answer(0, rows, Forms.framed(1, "ABC'"));
        answer(0, rows, Forms.framed(1, "ABC'ABC'"));
        answer(0, rows, Forms.framed(1, "ABC'ABC'ABC'"));
        answer(8, rows, Forms.framed(1, "ABC'ABC'ABC'ABC'"));
        answer(0, rows, Forms.framed(1, "ABC'DEF'ABC'"));
        answer(8, rows, Forms.framed(1, "ABC'DEF'DEF'"));
        answer(8, rows, Forms.framed(1, "ABC'DEF'ABC'ABC'"));
        // A row takes all it can, though a later one misses it then.
        answer(7, "ABC 1 2 0,ABC 1 1 0", Forms.framed(1, "ABC'ABC'"));
        // Header and trailer are never walked over; their tags between are like any others.
        answer(7, "UNH 1 1 0", Forms.framed(1, ""));
        answer(7, "UNT 1 1 0", Forms.framed(1, ""));
        answer(0, "UNT 1 1 0,UNH 0 1 0", Forms.framed(1, "UNT'UNH'"));
        answer(6, "ABC 0 1 0", Forms.framed(1, "UNT'"));
        answer(0, "ABC 20 20 0", Forms.framed(1, "ABC'".repeat(20)));
        answer(7, "ABC 20 20 0", Forms.framed(1, "ABC'".repeat(19)));
        answer(8, "ABC 20 20 0", Forms.framed(1, "ABC'".repeat(21)));
    }

    private static void groups() {
        String rows = "AAA 1 9 0,BBB 1 2 1,CCC 0 2 2,DDD 1 1 3,EEE 0 1 1,FFF 0 1 0";
        answer(0, rows, Forms.framed(1, "AAA'BBB'"));
        answer(0, rows, Forms.framed(1, "AAA'BBB'AAA'BBB'BBB'EEE'FFF'"));
        answer(0, rows, Forms.framed(1, "AAA'BBB'CCC'DDD'CCC'DDD'BBB'CCC'DDD'EEE'AAA'BBB'"));
        answer(7, rows, Forms.framed(1, "AAA'"));
        answer(7, rows, Forms.framed(1, "AAA'AAA'BBB'"));
        answer(7, rows, Forms.framed(1, "AAA'BBB'CCC'"));
        answer(7, rows, Forms.framed(1, "AAA'BBB'CCC'CCC'DDD'"));
        answer(8, rows, Forms.framed(1, "AAA'BBB'CCC'DDD'DDD'"));
        answer(8, rows, Forms.framed(1, "AAA'BBB'EEE'CCC'"));
        answer(8, rows, Forms.framed(1, "AAA'BBB'FFF'EEE'"));
        answer(7, rows, Forms.framed(1, "FFF'"));
        // A group is walked over only behind its row.
        answer(0, "AAA 0 1 0,BBB 1 1 1,CCC 0 1 0", Forms.framed(1, "CCC'"));
        answer(8, "AAA 0 1 0,BBB 1 1 1", Forms.framed(1, "BBB'"));
        // A group of the same tag takes its segments first.
        answer(0, "AAA 1 1 0,AAA 1 1 1,AAA 1 1 2", Forms.framed(1, "AAA'AAA'AAA'"));
        answer(7, "AAA 1 2 0,AAA 1 1 1", Forms.framed(1, "AAA'AAA'AAA'"));
    }

    private static void grammarsOfTheMoment() {
        SegmentForms x = Forms.withMessage(Forms.framed(2, "ABC'DEF'"));
        due.is(5, "check() without rows", x.check());
        Forms.rows(x, 2, "ABC 1 1 0");
        due.is(6, "check() with one row", x.check());
        Forms.rows(x, 2, "DEF 0 1 1");
        due.is(0, "check() with two rows", x.check());
        due.is(0, "check() once more", x.check());
        Forms.rows(x, 2, "GHI 1 1 0");
        due.is(7, "check() with three rows", x.check());
        Forms.give(x, "text that is being collected");
        due.is(7, "check() with a text", x.check());
    }

    private static void withoutMessage() {
        SegmentForms x = new SegmentForms();
        Forms.rows(x, 1, "ABC 0 1 0");
        due.thrown(IllegalStateException.class, "check() of a new object", () -> x.check());
        Forms.give(x, Forms.framed(1, ""));
        due.thrown(IllegalStateException.class, "check() ahead of read()", () -> x.check());
        x.read();
        due.is(0, "check()", x.check());
        Forms.read(x, "wrong");
        due.thrown(IllegalStateException.class, "check() behind a wrong text", () -> x.check());
    }
}
