import java.util.Random;

/** Runs of calls that a fixed seed chooses, each answered by the program as by the model. */
public final class AgainstModelTest {
    private static final int RUNS = 4000;
    private static final int CALLS_MOST = 512;
    private static final String[] TAGS = {"AAA", "BBB", "CCC", "DDD", "A0Z", "UNT"};
    private static final String[] SIGNS = {":+?*'", "|~!;^", "+:*?'", "'+?:*", ".,-/="};

    private final Due due;
    private final Random random;
    private final SegmentForms program = new SegmentForms();
    private final Model model = new Model();
    private final StringBuilder asked = new StringBuilder();
    private int calls = 0;

    private AgainstModelTest(Due due, int seed) {
        this.due = due;
        this.random = new Random(seed);
    }

    public static void main(String[] args) {
        Due due = new Due("AgainstModelTest");
        for (int run = 0; run < RUNS; run++) {
            new AgainstModelTest(due, run).run();
        }
        due.end();
    }

    private void run() {
        while (calls < CALLS_MOST) {
            if (random.nextInt(3) == 0) {
                grammar();
            }
            String text = text();
            for (int i = 0; i < text.length(); i++) {
                int c = text.charAt(i);
                ask("add", c);
            }
            ask("read");
            for (int i = random.nextInt(12); i > 0; i--) {
                look();
            }
        }
    }

    /** Asks both, unless the object has been used up. */
    private void ask(String name, int... a) {
        calls++;
        if (calls > CALLS_MOST) {
            return;
        }
        asked.append(name).append(java.util.Arrays.toString(a)).append(' ');
        String got = answer(() -> ofProgram(name, a));
        String wanted = answer(() -> ofModel(name, a));
        due.is(wanted, got.equals(wanted) ? "" : "the last of " + asked, got);
    }

    private static String answer(Due.Call call) {
        try {
            return String.valueOf(call.answer());
        } catch (RuntimeException e) {
            return e.getClass().getName();
        }
    }

    private long ofProgram(String name, int[] a) {
        return switch (name) {
            case "add" -> program.add(a[0]) ? 1 : 0;
            case "read" -> program.read();
            case "row" -> program.row(a[0], a[1], a[2], a[3], a[4]);
            case "check" -> program.check();
            case "fault" -> program.fault(a[0]);
            case "segment" -> program.segment(a[0], a[1]);
            case "repeats" -> program.repeats(a[0], a[1]);
            case "components" -> program.components(a[0], a[1], a[2]);
            case "field" -> program.field(a[0], a[1], a[2], a[3]);
            case "letter" -> program.letter(a[0], a[1], a[2], a[3], a[4]);
            case "build" -> program.build();
            case "at" -> program.at(a[0]);
            case "count" -> program.count(a[0]);
            default -> throw new AssertionError(name);
        };
    }

    private long ofModel(String name, int[] a) {
        return switch (name) {
            case "add" -> model.add(a[0]) ? 1 : 0;
            case "read" -> model.read();
            case "row" -> model.row(a[0], a[1], a[2], a[3], a[4]);
            case "check" -> model.check();
            case "fault" -> model.fault(a[0]);
            case "segment" -> model.segment(a[0], a[1]);
            case "repeats" -> model.repeats(a[0], a[1]);
            case "components" -> model.components(a[0], a[1], a[2]);
            case "field" -> model.field(a[0], a[1], a[2], a[3]);
            case "letter" -> model.letter(a[0], a[1], a[2], a[3], a[4]);
            case "build" -> model.build();
            case "at" -> model.at(a[0]);
            case "count" -> model.count(a[0]);
            default -> throw new AssertionError(name);
        };
    }

    private void grammar() {
        int kind = random.nextInt(2);
        int level = 0;
        for (int rows = random.nextInt(6); rows > 0; rows--) {
            int most = 1 + random.nextInt(3);
            ask("row", odd(kind, 30), odd(Forms.tag(TAGS[random.nextInt(5)]), 30),
                    odd(random.nextInt(3) == 0 ? 1 : 0, 30), odd(most, 30), odd(level, 30));
            level = Math.max(0, Math.min(3, level + 1 - random.nextInt(3)));
        }
    }

    /** Now and then another number than the one told. */
    private int odd(int number, int seldom) {
        if (random.nextInt(seldom) != 0) {
            return number;
        }
        int[] others = {-1, 0, 1, 2, 3, 4, 5, 20, 21, 60, 1499, 1500, 4000, number + 1, number - 1,
            number + (1 << 24), Integer.MIN_VALUE, Integer.MAX_VALUE};
        return others[random.nextInt(others.length)];
    }

    private String text() {
        String signs = SIGNS[random.nextInt(4) == 0 ? random.nextInt(SIGNS.length) : 0];
        StringBuilder all = new StringBuilder();
        if (!signs.equals(SIGNS[0])) {
            all.append("UNA").append(signs);
        }
        int between = random.nextInt(random.nextInt(40) == 0 ? 75 : 7);
        String element = signs.substring(1, 2);
        String end = signs.substring(4, 5);
        all.append("UNH").append(element).append("r").append(element).append(random.nextInt(2));
        all.append(end);
        for (int i = 0; i < between; i++) {
            all.append(TAGS[random.nextInt(random.nextInt(20) == 0 ? 6 : 3)]);
            if (between < 10) {
                elements(all, signs);
            }
            all.append(end);
        }
        all.append("UNT").append(element).append(between + 2).append(element).append("r");
        all.append(end);
        for (int wounds = random.nextInt(4) == 0 ? 1 + random.nextInt(3) : 0; wounds > 0; wounds--) {
            wound(all, signs);
        }
        return all.toString();
    }

    private void elements(StringBuilder all, String signs) {
        int most = random.nextInt(30) == 0 ? 24 : 4;
        for (int i = random.nextInt(most); i > 0; i--) {
            all.append(signs.charAt(1));
            // Mostly one of the separators, so that limits are met and empty parts abound.
            for (int j = random.nextInt(random.nextInt(8) == 0 ? 14 : 5); j > 0; j--) {
                switch (random.nextInt(6)) {
                    case 0, 1 -> all.append(signs.charAt(0));
                    case 2 -> all.append(signs.charAt(3));
                    case 3 -> all.append(signs.charAt(2)).append((char) (32 + random.nextInt(95)));
                    default -> all.append("xyZ9 ".charAt(random.nextInt(5)));
                }
            }
        }
    }

    private void wound(StringBuilder all, String signs) {
        if (all.length() == 0) {
            return;
        }
        int at = random.nextInt(all.length());
        char sign = random.nextInt(2) == 0 ? signs.charAt(random.nextInt(5))
                : (char) (30 + random.nextInt(99));
        switch (random.nextInt(4)) {
            case 0 -> all.deleteCharAt(at);
            case 1 -> all.insert(at, sign);
            case 2 -> all.setCharAt(at, sign);
            default -> all.setLength(at + 1);
        }
    }

    private void look() {
        int segment = odd(random.nextInt(1 + Math.max(1, model.count(1))), 20);
        int element = odd(random.nextInt(4), 20);
        int repeat = odd(random.nextInt(3), 20);
        int component = odd(random.nextInt(4), 20);
        int what = odd(random.nextInt(4), 20);
        if (random.nextInt(20) == 0) {
            grammar();
        }
        switch (random.nextInt(11)) {
            case 0 -> ask("build");
            case 1 -> ask("at", odd(random.nextInt(60), 5));
            case 2 -> ask("count", odd(random.nextInt(16), 10));
            case 3 -> ask("repeats", segment, element);
            case 4 -> ask("components", segment, element, repeat);
            case 5 -> ask("field", segment, element, repeat, component);
            case 6 -> ask("letter", segment, element, repeat, component, odd(0, 3));
            case 7 -> ask("fault", what);
            case 8 -> ask("segment", segment, what);
            default -> {
                ask("check");
                for (int i = 0; i < 3; i++) {
                    ask("fault", i);
                }
                for (int i = 0; i < Math.min(8, model.count(1)); i++) {
                    ask("segment", i, 2 + random.nextInt(2));
                }
            }
        }
    }
}
