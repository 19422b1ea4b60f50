import java.util.ArrayList;
import java.util.Arrays;
import java.util.List;
import java.util.regex.Matcher;
import java.util.regex.Pattern;

/**
 * The document once more, in another way than the program: a regular expression tells the first
 * wrong place, texts are split into lists, and grammars are trees.
 */
final class Model {
    static final int NONE = -1;

    record Row(int tag, int least, int most, int level) {}

    record Node(int number, Row row, List<Node> group) {}

    record Segment(String tag, List<List<List<String>>> elements) {
        int number() {
            return Forms.tag(tag);
        }

        String first(int element) {
            return element < elements.size() ? elements.get(element).get(0).get(0) : null;
        }
    }

    /** Ends a walk where a row is missing. */
    private static final class Missing extends Exception {
        private static final long serialVersionUID = 1;
    }

    private static final String UNTOLD = ":+?*'";

    String text = "";
    String signs = UNTOLD;
    List<Segment> message = null;
    String built = "";
    final List<List<Row>> kinds = new ArrayList<>();
    int[] fault = {NONE, NONE, NONE};
    int[] rows = {};
    int[] aboves = {};
    private int next;

    Model() {
        for (int kind = 0; kind < 4; kind++) {
            kinds.add(new ArrayList<>());
        }
    }

    boolean add(int c) {
        boolean taken = c >= 32 && c < 127 && text.length() < 1500;
        text += taken ? String.valueOf((char) c) : "";
        return taken;
    }

    int read() {
        String all = text;
        text = "";
        message = null;
        signs = UNTOLD;
        fault = new int[] {NONE, NONE, NONE};
        int start = 0;
        String told = UNTOLD;
        if (all.startsWith("UNA")) {
            for (int at = 3; at < 8; at++) {
                if (at >= all.length()
                        || !all.substring(at, at + 1).matches("[^A-Za-z0-9 ]")
                        || all.substring(3, at).indexOf(all.charAt(at)) >= 0) {
                    return -1 - at;
                }
            }
            told = all.substring(3, 8);
            start = 8;
        }
        int wrong = firstWrong(all.substring(start), told);
        if (wrong != NONE) {
            return -1 - start - wrong;
        }
        signs = told;
        message = new ArrayList<>();
        for (String segment : ended(all.substring(start))) {
            message.add(parsed(segment));
        }
        fillNone();
        return message.size();
    }

    private static int firstWrong(String text, String told) {
        String[] s = new String[5];
        for (int k = 0; k < 5; k++) {
            s[k] = Pattern.quote(told.substring(k, k + 1));
        }
        String component = "(?:" + s[2] + ".|(?!" + String.join("|", s) + ").)*+";
        String repeat = component + "(?:" + s[0] + component + "){0,7}+";
        String element = repeat + "(?:" + s[3] + repeat + "){0,3}+";
        String segment = "[A-Z][A-Z0-9]{2}(?:" + s[1] + element + "){0,20}+" + s[4];
        Pattern whole = Pattern.compile("(?:" + segment + "){1,60}+");
        for (int end = 1; end <= text.length(); end++) {
            Matcher matcher = whole.matcher(text.substring(0, end));
            if (!matcher.matches() && !matcher.hitEnd()) {
                return end - 1;
            }
        }
        return whole.matcher(text).matches() ? NONE : text.length();
    }

    /** Splits at a service sign that is not released; what is released stays so. */
    private List<String> split(String whole, int sign) {
        List<String> parts = new ArrayList<>();
        String part = "";
        for (int i = 0; i < whole.length(); i++) {
            char c = whole.charAt(i);
            if (c == signs.charAt(sign)) {
                parts.add(part);
                part = "";
            } else if (c == signs.charAt(2)) {
                part += whole.substring(i, i + 2);
                i++;
            } else {
                part += c;
            }
        }
        parts.add(part);
        return parts;
    }

    private List<String> ended(String whole) {
        List<String> parts = split(whole, 4);
        return parts.subList(0, parts.size() - 1);
    }

    private Segment parsed(String segment) {
        List<String> raw = split(segment, 1);
        List<List<List<String>>> elements = new ArrayList<>();
        for (String element : raw.subList(1, raw.size())) {
            List<List<String>> repeats = new ArrayList<>();
            for (String repeat : split(element, 3)) {
                List<String> components = new ArrayList<>();
                for (String component : split(repeat, 0)) {
                    components.add(component.replaceAll(Pattern.quote(signs.substring(2, 3))
                            + "(.)", "$1"));
                }
                repeats.add(components);
            }
            elements.add(repeats);
        }
        return new Segment(raw.get(0), elements);
    }

    int row(int kind, int tag, int least, int most, int level) {
        String spelled = "" + (char) (tag >>> 16 & 255) + (char) (tag >>> 8 & 255)
                + (char) (tag & 255);
        if (kind < 0 || kind > 3 || tag >>> 24 != 0 || !spelled.matches("[A-Z][A-Z0-9][A-Z0-9]")
                || least < 0 || least > 20 || most < 1 || most > 20 || least > most) {
            throw new IllegalArgumentException();
        }
        List<Row> grammar = kinds.get(kind);
        int above = grammar.isEmpty() ? -1 : grammar.get(grammar.size() - 1).level();
        if (grammar.size() >= 20 || level < 0 || level > 3 || level - above > 1) {
            throw new IllegalStateException();
        }
        grammar.add(new Row(tag, least, most, level));
        return grammar.size();
    }

    int check() {
        if (message == null) {
            throw new IllegalStateException();
        }
        fillNone();
        fault = new int[] {NONE, NONE, NONE};
        fault[0] = verdict();
        return fault[0];
    }

    private void fillNone() {
        rows = new int[message.size()];
        aboves = new int[message.size()];
        Arrays.fill(rows, NONE);
        Arrays.fill(aboves, NONE);
    }

    private int verdict() {
        Segment first = message.get(0);
        Segment last = message.get(message.size() - 1);
        if (!first.tag().equals("UNH")) {
            return 1;
        }
        if (!last.tag().equals("UNT")) {
            return 2;
        }
        if (!String.valueOf(message.size()).equals(last.first(0))) {
            return 3;
        }
        if (last.first(1) == null || !last.first(1).equals(first.first(0))) {
            return 4;
        }
        String kind = first.first(1);
        if (kind == null || !kind.matches("[0-3]") || kinds.get(Integer.parseInt(kind)).isEmpty()) {
            return 5;
        }
        List<Row> grammar = kinds.get(Integer.parseInt(kind));
        for (int i = 1; i < message.size() - 1; i++) {
            int tag = message.get(i).number();
            if (grammar.stream().noneMatch(row -> row.tag() == tag)) {
                fault[1] = i;
                return 6;
            }
        }
        next = 1;
        try {
            walk(trees(grammar, 0, grammar.size()), NONE);
        } catch (Missing e) {
            return 7;
        }
        if (next < message.size() - 1) {
            fault[1] = next;
            return 8;
        }
        return 0;
    }

    private static List<Node> trees(List<Row> grammar, int from, int to) {
        List<Node> nodes = new ArrayList<>();
        int i = from;
        while (i < to) {
            int end = i + 1;
            while (end < to && grammar.get(end).level() > grammar.get(i).level()) {
                end++;
            }
            nodes.add(new Node(i, grammar.get(i), trees(grammar, i + 1, end)));
            i = end;
        }
        return nodes;
    }

    private void walk(List<Node> nodes, int above) throws Missing {
        for (Node node : nodes) {
            int times = 0;
            while (times < node.row().most() && next < message.size() - 1
                    && message.get(next).number() == node.row().tag()) {
                int mine = next++;
                rows[mine] = node.number();
                aboves[mine] = above;
                times++;
                walk(node.group(), mine);
            }
            if (times < node.row().least()) {
                fault[1] = next;
                fault[2] = node.number();
                throw new Missing();
            }
        }
    }

    int fault(int what) {
        return what >= 0 && what <= 2 ? fault[what] : NONE;
    }

    private Segment at(List<Segment> all, int segment) {
        if (all == null || segment < 0 || segment >= all.size()) {
            throw new IndexOutOfBoundsException();
        }
        return all.get(segment);
    }

    int segment(int segment, int what) {
        Segment found = at(message, segment);
        return switch (what) {
            case 0 -> found.number();
            case 1 -> found.elements().size();
            case 2 -> rows[segment];
            case 3 -> aboves[segment];
            default -> throw new IndexOutOfBoundsException();
        };
    }

    private static <T> List<T> in(List<List<T>> all, int i) {
        return i >= 0 && i < all.size() ? all.get(i) : List.of();
    }

    int repeats(int segment, int element) {
        return in(at(message, segment).elements(), element).size();
    }

    int components(int segment, int element, int repeat) {
        return in(in(at(message, segment).elements(), element), repeat).size();
    }

    private String component(int segment, int element, int repeat, int component) {
        List<String> found = in(in(at(message, segment).elements(), element), repeat);
        return component >= 0 && component < found.size() ? found.get(component) : null;
    }

    int field(int segment, int element, int repeat, int component) {
        String found = component(segment, element, repeat, component);
        return found == null ? NONE : found.length();
    }

    int letter(int segment, int element, int repeat, int component, int i) {
        String found = component(segment, element, repeat, component);
        return found != null && i >= 0 && i < found.length() ? found.charAt(i) : NONE;
    }

    int build() {
        if (message == null) {
            throw new IllegalStateException();
        }
        built = "";
        for (Segment segment : message) {
            List<String> elements = new ArrayList<>();
            for (List<List<String>> element : segment.elements()) {
                List<String> repeats = new ArrayList<>();
                for (List<String> repeat : element) {
                    repeats.add(joined(repeat.stream().map(this::released).toList(), 0));
                }
                elements.add(joined(repeats, 3));
            }
            String all = joined(elements, 1);
            built += segment.tag() + (all.isEmpty() ? "" : signs.charAt(1) + all) + signs.charAt(4);
        }
        return built.length();
    }

    private String released(String component) {
        StringBuilder all = new StringBuilder();
        for (char c : component.toCharArray()) {
            all.append(signs.indexOf(c) >= 0 ? signs.substring(2, 3) : "").append(c);
        }
        return all.toString();
    }

    private String joined(List<String> parts, int sign) {
        int kept = parts.size();
        while (kept > 0 && parts.get(kept - 1).isEmpty()) {
            kept--;
        }
        return String.join(signs.substring(sign, sign + 1), parts.subList(0, kept));
    }

    int at(int i) {
        if (i < 0 || i >= 4000) {
            throw new ArrayIndexOutOfBoundsException();
        }
        return i < built.length() ? built.charAt(i) : 0;
    }

    int count(int what) {
        return switch (what) {
            case 0 -> text.length();
            case 1 -> message == null ? 0 : message.size();
            case 2 -> built.length();
            case 3, 4, 5, 6, 7 -> signs.charAt(what - 3);
            case 10, 11, 12, 13 -> kinds.get(what - 10).size();
            default -> NONE;
        };
    }
}
