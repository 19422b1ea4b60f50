import java.util.Arrays;

/**
 * Messages in segments: a text is collected sign by sign, read into a message, checked against
 * grammars, looked at part by part, and built again.
 *
 * <p>All rows are made with the object and used again by every call, so that a long run of calls
 * makes no objects beside the exceptions that it throws.
 */
public final class SegmentForms {
    public static final int NONE = -1;

    private static final int TEXT_MOST = 1500;
    private static final int SEGMENTS_MOST = 60;
    private static final int ELEMENTS_MOST = 20;
    private static final int REPEATS_MOST = 4;
    private static final int COMPONENTS_MOST = 8;

    private static final int KINDS = 4;
    private static final int ROWS_MOST = 20;
    private static final int TIMES_MOST = 20;
    private static final int LEVEL_MOST = 3;

    private static final int BUILT_PLACES = 4000;
    private static final int LOWEST_SIGN = 32;
    private static final int HIGHEST_SIGN = 126;

    private static final int COUNT_OF_SIGNS = 3;
    private static final int COUNT_OF_ROWS = 10;

    private final SignRow text;
    private final SignRow built;
    private final ServiceSigns signs;
    private final Message message;
    private final Reader reader;
    private final Grammar[] grammars;
    private final Check lastCheck;
    private final Writer writer;

    public SegmentForms() {
        text = new SignRow();
        built = new SignRow();
        signs = new ServiceSigns();
        message = new Message();
        reader = new Reader(message, signs);
        grammars = new Grammar[KINDS];
        for (int kind = 0; kind < grammars.length; kind++) {
            grammars[kind] = new Grammar();
        }
        lastCheck = new Check(message);
        writer = new Writer(message, signs, built);
    }

    public boolean add(int c) {
        return c >= LOWEST_SIGN && c <= HIGHEST_SIGN && text.append(c);
    }

    public int read() {
        lastCheck.forget();
        message.clear();
        signs.setUntold();
        int wrong = reader.firstWrongPlace(text);
        text.clear();
        if (wrong != NONE) {
            message.clear();
            signs.setUntold();
            return -1 - wrong;
        }
        return message.size();
    }

    public int row(int kind, int tag, int least, int most, int level)
            throws IllegalArgumentException, IllegalStateException {
        Grammar grammar = grammarOf(kind);
        if (grammar == null || !Tag.isTag(tag)) {
            throw new IllegalArgumentException("no such kind or tag");
        }
        if (least < 0 || most < 1 || most > TIMES_MOST || least > most) {
            throw new IllegalArgumentException("no such least or most");
        }
        if (grammar.isFull() || !grammar.canTakeLevel(level)) {
            throw new IllegalStateException("too many rows, or no such level here");
        }
        grammar.append(tag, least, most, level);
        return grammar.size();
    }

    public int check() throws IllegalStateException {
        needMessage();
        int kind = lastCheck.toldKind();
        return lastCheck.run(grammarOf(kind));
    }

    public int fault(int what) {
        switch (what) {
            case 0:
                return lastCheck.answer();
            case 1:
                return lastCheck.faultSegment();
            case 2:
                return lastCheck.faultRow();
            default:
                return NONE;
        }
    }

    public int segment(int segment, int what) throws IndexOutOfBoundsException {
        needSegment(segment);
        switch (what) {
            case 0:
                return message.tagOf(segment);
            case 1:
                return message.elementsOf(segment);
            case 2:
                return lastCheck.rowOf(segment);
            case 3:
                return lastCheck.aboveOf(segment);
            default:
                throw new IndexOutOfBoundsException("no such what");
        }
    }

    public int repeats(int segment, int element) throws IndexOutOfBoundsException {
        needSegment(segment);
        return message.repeatsOf(message.elementAt(segment, element));
    }

    public int components(int segment, int element, int repeat) throws IndexOutOfBoundsException {
        needSegment(segment);
        return message.componentsOf(message.repeatAt(message.elementAt(segment, element), repeat));
    }

    public int field(int segment, int element, int repeat, int component)
            throws IndexOutOfBoundsException {
        needSegment(segment);
        int found = message.findComponent(segment, element, repeat, component);
        return found == NONE ? NONE : message.lettersOf(found);
    }

    public int letter(int segment, int element, int repeat, int component, int i)
            throws IndexOutOfBoundsException {
        needSegment(segment);
        return message.letterAt(message.findComponent(segment, element, repeat, component), i);
    }

    public int build() throws IllegalStateException {
        needMessage();
        writer.write();
        return built.length();
    }

    // The document names this exception though LANGUAGE.md's rule 6 does not list it.
    public int at(int i) throws ArrayIndexOutOfBoundsException {
        if (i < 0 || i >= BUILT_PLACES) {
            throw new ArrayIndexOutOfBoundsException("no such place");
        }
        return built.signAt(i);
    }

    public int count(int what) {
        if (what >= COUNT_OF_SIGNS && what < COUNT_OF_SIGNS + ServiceSigns.HOW_MANY) {
            return signs.signOf(what - COUNT_OF_SIGNS);
        }
        if (what >= COUNT_OF_ROWS) {
            Grammar grammar = grammarOf(what - COUNT_OF_ROWS);
            return grammar == null ? NONE : grammar.size();
        }
        switch (what) {
            case 0:
                return text.length();
            case 1:
                return message.size();
            case 2:
                return built.length();
            default:
                return NONE;
        }
    }

    private Grammar grammarOf(int kind) {
        return kind >= 0 && kind < grammars.length ? grammars[kind] : null;
    }

    private void needMessage() {
        if (!message.isThere()) {
            throw new IllegalStateException("no message");
        }
    }

    private void needSegment(int segment) {
        if (segment < 0 || segment >= message.size()) {
            throw new IndexOutOfBoundsException("no such segment");
        }
    }

    /** What single signs and tags may be. */
    private static final class Tag {
        static final int UNH = 65536 * 'U' + 256 * 'N' + 'H';
        static final int UNT = 65536 * 'U' + 256 * 'N' + 'T';

        static boolean isCapital(int sign) {
            return sign >= 'A' && sign <= 'Z';
        }

        static boolean isSmall(int sign) {
            return sign >= 'a' && sign <= 'z';
        }

        static boolean isDigit(int sign) {
            return sign >= '0' && sign <= '9';
        }

        static boolean isLaterSign(int sign) {
            return isCapital(sign) || isDigit(sign);
        }

        static boolean isTag(int tag) {
            return isCapital(first(tag)) && isLaterSign(second(tag)) && isLaterSign(third(tag));
        }

        // Keeps what stands above the first sign, so that too large a number is no tag.
        static int first(int tag) {
            return tag >> 16;
        }

        static int second(int tag) {
            return (tag >> 8) & 255;
        }

        static int third(int tag) {
            return tag & 255;
        }
    }

    /**
     * A row of signs that grows at its end. The length of a text is enough for all of them: a
     * message has no more letters than its text has signs, and what is built is never longer than
     * the text that was read, as only what was released there is released again.
     */
    private static final class SignRow {
        private final int[] signs;
        private int length;

        SignRow() {
            signs = new int[TEXT_MOST];
            length = 0;
        }

        void clear() {
            length = 0;
        }

        int length() {
            return length;
        }

        boolean append(int sign) {
            if (length < 0 || length >= signs.length) {
                return false;
            }
            signs[length] = sign;
            length++;
            return true;
        }

        int signAt(int i) {
            return i >= 0 && i < length && i < signs.length ? signs[i] : 0;
        }
    }

    /** The five service signs, numbered as UNA tells them. */
    private static final class ServiceSigns {
        static final int HOW_MANY = 5;
        static final int COMPONENT = 0;
        static final int ELEMENT = 1;
        static final int RELEASE = 2;
        static final int REPEAT = 3;
        static final int END = 4;

        private static final int[] UNTOLD = {':', '+', '?', '*', '\''};

        private final int[] signs;

        ServiceSigns() {
            signs = UNTOLD.clone();
        }

        void setUntold() {
            for (int k = 0; k < signs.length && k < UNTOLD.length; k++) {
                signs[k] = UNTOLD[k];
            }
        }

        /** Answers false if the sign can't be service sign k behind those ahead of it. */
        boolean tell(int k, int sign) {
            if (k < 0 || k >= signs.length || !canServe(sign)) {
                return false;
            }
            for (int i = 0; i < k; i++) {
                if (signs[i] == sign) {
                    return false;
                }
            }
            signs[k] = sign;
            return true;
        }

        int signOf(int k) {
            return k >= 0 && k < signs.length ? signs[k] : NONE;
        }

        /** The number of a service sign, NONE of an ordinary sign. */
        int numberOf(int sign) {
            for (int k = 0; k < signs.length; k++) {
                if (signs[k] == sign) {
                    return k;
                }
            }
            return NONE;
        }

        private static boolean canServe(int sign) {
            return !Tag.isLaterSign(sign) && !Tag.isSmall(sign) && sign != ' ';
        }
    }

    /**
     * Parts in the order of the text, each with a run of children in the next layer: part i has
     * the children first[i] up to, but without, first[i + 1].
     */
    private static final class Layer {
        private final int[] first;
        private int size;

        Layer(int most) {
            first = new int[most >= 0 ? most + 1 : 1];
            size = 0;
        }

        void clear() {
            size = 0;
        }

        int size() {
            return size;
        }

        /** A new part behind the others, without children. */
        boolean open() {
            if (size < 0 || size + 1 >= first.length) {
                return false;
            }
            first[size + 1] = first[size];
            size++;
            return true;
        }

        /** One child more for the last part. */
        void grow() {
            if (size >= 1 && size < first.length) {
                first[size]++;
            }
        }

        int childrenOf(int part) {
            return part >= 0 && part < size && part + 1 < first.length
                    ? first[part + 1] - first[part]
                    : 0;
        }

        int childrenOfLast() {
            return size >= 1 && size < first.length ? first[size] - first[size - 1] : 0;
        }

        int childAt(int part, int i) {
            if (part < 0 || part >= size || part + 1 >= first.length) {
                return NONE;
            }
            return i >= 0 && i < first[part + 1] - first[part] ? first[part] + i : NONE;
        }
    }

    /** The segments of the message in layers; a message that is there has at least one. */
    private static final class Message {
        private final int[] tags;
        private final Layer segments;
        private final Layer elements;
        private final Layer repeats;
        private final Layer components;
        private final SignRow letters;

        Message() {
            tags = new int[SEGMENTS_MOST];
            segments = new Layer(SEGMENTS_MOST);
            elements = new Layer(SEGMENTS_MOST * ELEMENTS_MOST);
            // Each repeat and each component stands behind a sign of its own in the text.
            repeats = new Layer(TEXT_MOST);
            components = new Layer(TEXT_MOST);
            letters = new SignRow();
        }

        void clear() {
            segments.clear();
            elements.clear();
            repeats.clear();
            components.clear();
            letters.clear();
        }

        boolean isThere() {
            return segments.size() > 0;
        }

        boolean isFull() {
            return segments.size() >= SEGMENTS_MOST;
        }

        int size() {
            return segments.size();
        }

        boolean openSegment(int tag) {
            int segment = segments.size();
            if (segment < 0 || segment >= tags.length || !segments.open()) {
                return false;
            }
            tags[segment] = tag;
            return true;
        }

        /** An element has a repeat from its first sign on, and a repeat a component. */
        boolean openElement() {
            return openBelow(segments, ELEMENTS_MOST, elements)
                    && openBelow(elements, REPEATS_MOST, repeats)
                    && openBelow(repeats, COMPONENTS_MOST, components);
        }

        boolean openRepeat() {
            return openBelow(elements, REPEATS_MOST, repeats)
                    && openBelow(repeats, COMPONENTS_MOST, components);
        }

        boolean openComponent() {
            return openBelow(repeats, COMPONENTS_MOST, components);
        }

        private static boolean openBelow(Layer above, int most, Layer below) {
            if (above.childrenOfLast() >= most || !below.open()) {
                return false;
            }
            above.grow();
            return true;
        }

        boolean appendLetter(int sign) {
            if (!letters.append(sign)) {
                return false;
            }
            components.grow();
            return true;
        }

        int tagOf(int segment) {
            return segment >= 0 && segment < segments.size() && segment < tags.length
                    ? tags[segment]
                    : NONE;
        }

        int elementsOf(int segment) {
            return segments.childrenOf(segment);
        }

        int elementAt(int segment, int i) {
            return segments.childAt(segment, i);
        }

        int repeatsOf(int element) {
            return elements.childrenOf(element);
        }

        int repeatAt(int element, int i) {
            return elements.childAt(element, i);
        }

        int componentsOf(int repeat) {
            return repeats.childrenOf(repeat);
        }

        int componentAt(int repeat, int i) {
            return repeats.childAt(repeat, i);
        }

        int lettersOf(int component) {
            return components.childrenOf(component);
        }

        int letterAt(int component, int i) {
            int found = components.childAt(component, i);
            return found == NONE ? NONE : letters.signAt(found);
        }

        int findComponent(int segment, int element, int repeat, int component) {
            return componentAt(repeatAt(elementAt(segment, element), repeat), component);
        }

        /** Whether both components are there and have the same letters. */
        boolean areSame(int one, int other) {
            int length = lettersOf(one);
            if (one == NONE || other == NONE || length != lettersOf(other)) {
                return false;
            }
            for (int i = 0; i < length; i++) {
                if (letterAt(one, i) != letterAt(other, i)) {
                    return false;
                }
            }
            return true;
        }

        /** Whether a component is a number above 0 in digits, without a 0 ahead. */
        boolean spells(int component, int number) {
            int rest = number;
            for (int i = lettersOf(component) - 1; i >= 0; i--) {
                if (rest == 0 || letterAt(component, i) != '0' + rest % 10) {
                    return false;
                }
                rest = rest / 10;
            }
            return rest == 0;
        }
    }

    /** Takes a text sign by sign into a message, up to the first sign that can't stand there. */
    private static final class Reader {
        // The signs of a tag lead from each of the first four states to the next.
        private static final int AT_TAG = 0;
        private static final int AT_SECOND = 1;
        private static final int AT_THIRD = 2;
        private static final int BEHIND_TAG = 3;
        private static final int IN_COMPONENT = 4;
        private static final int BEHIND_RELEASE = 5;

        private static final int UNA_LENGTH = 3;

        private final Message message;
        private final ServiceSigns signs;
        private int state;
        private int tag;

        Reader(Message message, ServiceSigns signs) {
            this.message = message;
            this.signs = signs;
            state = AT_TAG;
            tag = 0;
        }

        /** NONE if nothing is wrong. */
        int firstWrongPlace(SignRow text) {
            int start = 0;
            if (beginsWithUna(text)) {
                int wrong = firstWrongOfUna(text);
                if (wrong != NONE) {
                    return wrong;
                }
                start = UNA_LENGTH + ServiceSigns.HOW_MANY;
            }
            state = AT_TAG;
            for (int place = start; place < text.length(); place++) {
                if (!take(text.signAt(place))) {
                    return place;
                }
            }
            boolean ended = state == AT_TAG && message.isThere();
            return ended ? NONE : text.length();
        }

        private static boolean beginsWithUna(SignRow text) {
            return text.signAt(0) == 'U' && text.signAt(1) == 'N' && text.signAt(2) == 'A';
        }

        private int firstWrongOfUna(SignRow text) {
            for (int k = 0; k < ServiceSigns.HOW_MANY; k++) {
                int place = UNA_LENGTH + k;
                // Where the text ends early, its length is this very place.
                if (place >= text.length() || !signs.tell(k, text.signAt(place))) {
                    return place;
                }
            }
            return NONE;
        }

        private boolean take(int sign) {
            switch (state) {
                case AT_TAG:
                    return !message.isFull() && Tag.isCapital(sign) && takeOfTag(0, sign);
                case AT_SECOND:
                    return Tag.isLaterSign(sign) && takeOfTag(tag, sign);
                case AT_THIRD:
                    return Tag.isLaterSign(sign) && takeOfTag(tag, sign)
                            && message.openSegment(tag);
                case BEHIND_TAG:
                    return takeBehindTag(signs.numberOf(sign));
                case BEHIND_RELEASE:
                    state = IN_COMPONENT;
                    return message.appendLetter(sign);
                default:
                    return takeInComponent(sign);
            }
        }

        private boolean takeOfTag(int ahead, int sign) {
            tag = 256 * ahead + sign;
            state++;
            return true;
        }

        private boolean takeBehindTag(int number) {
            if (number == ServiceSigns.END) {
                state = AT_TAG;
                return true;
            }
            state = IN_COMPONENT;
            return number == ServiceSigns.ELEMENT && message.openElement();
        }

        private boolean takeInComponent(int sign) {
            switch (signs.numberOf(sign)) {
                case ServiceSigns.COMPONENT:
                    return message.openComponent();
                case ServiceSigns.ELEMENT:
                    return message.openElement();
                case ServiceSigns.RELEASE:
                    state = BEHIND_RELEASE;
                    return true;
                case ServiceSigns.REPEAT:
                    return message.openRepeat();
                case ServiceSigns.END:
                    state = AT_TAG;
                    return true;
                default:
                    return message.appendLetter(sign);
            }
        }
    }

    /** The rows of one kind. */
    private static final class Grammar {
        private final int[] tags;
        private final int[] leasts;
        private final int[] mosts;
        private final int[] levels;
        private int size;

        Grammar() {
            tags = new int[ROWS_MOST];
            leasts = new int[ROWS_MOST];
            mosts = new int[ROWS_MOST];
            levels = new int[ROWS_MOST];
            size = 0;
        }

        int size() {
            return size;
        }

        boolean isFull() {
            return size >= ROWS_MOST;
        }

        boolean canTakeLevel(int level) {
            int highest = size == 0 ? 0 : Math.min(levelOf(size - 1) + 1, LEVEL_MOST);
            return level >= 0 && level <= highest;
        }

        void append(int tag, int least, int most, int level) {
            if (size < 0 || size >= ROWS_MOST) {
                return;
            }
            tags[size] = tag;
            leasts[size] = least;
            mosts[size] = most;
            levels[size] = level;
            size++;
        }

        int tagOf(int row) {
            return row >= 0 && row < size ? tags[row] : NONE;
        }

        int leastOf(int row) {
            return row >= 0 && row < size ? leasts[row] : 0;
        }

        int mostOf(int row) {
            return row >= 0 && row < size ? mosts[row] : 0;
        }

        int levelOf(int row) {
            return row >= 0 && row < size ? levels[row] : NONE;
        }

        boolean knows(int tag) {
            for (int row = 0; row < size; row++) {
                if (tagOf(row) == tag) {
                    return true;
                }
            }
            return false;
        }

        /** The row behind the group of a row. */
        int endOfGroup(int row) {
            for (int end = row + 1; end < size; end++) {
                if (levelOf(end) <= levelOf(row)) {
                    return end;
                }
            }
            return size;
        }
    }

    /** The last check of the message, and what it found. */
    private static final class Check {
        private static final int ALL_RIGHT = 0;
        private static final int NO_HEADER = 1;
        private static final int NO_TRAILER = 2;
        private static final int WRONG_NUMBER = 3;
        private static final int WRONG_REFERENCE = 4;
        private static final int NO_GRAMMAR = 5;
        private static final int UNKNOWN_TAG = 6;
        private static final int ROW_MISSING = 7;
        private static final int LEFT_OVER = 8;

        private final Message message;
        private final int[] rows;
        private final int[] aboves;
        private int answer;
        private int faultSegment;
        private int faultRow;
        private int next;
        private int last;

        Check(Message message) {
            this.message = message;
            rows = new int[SEGMENTS_MOST];
            aboves = new int[SEGMENTS_MOST];
            next = 0;
            last = 0;
            forget();
        }

        void forget() {
            Arrays.fill(rows, NONE);
            Arrays.fill(aboves, NONE);
            answer = NONE;
            faultSegment = NONE;
            faultRow = NONE;
        }

        int answer() {
            return answer;
        }

        int faultSegment() {
            return faultSegment;
        }

        int faultRow() {
            return faultRow;
        }

        int rowOf(int segment) {
            return segment >= 0 && segment < rows.length ? rows[segment] : NONE;
        }

        int aboveOf(int segment) {
            return segment >= 0 && segment < aboves.length ? aboves[segment] : NONE;
        }

        /** The kind that the header tells, or a number that is no kind. */
        int toldKind() {
            int told = message.findComponent(0, 1, 0, 0);
            return message.lettersOf(told) == 1 ? message.letterAt(told, 0) - '0' : NONE;
        }

        /** The grammar is that of the told kind, null if there is none such. */
        int run(Grammar grammar) {
            forget();
            last = message.size() - 1;
            answer = faultOfFrame();
            if (answer == ALL_RIGHT) {
                boolean known = grammar != null && grammar.size() > 0;
                answer = known ? faultBetween(grammar) : NO_GRAMMAR;
            }
            return answer;
        }

        private int faultOfFrame() {
            if (message.tagOf(0) != Tag.UNH) {
                return NO_HEADER;
            }
            if (last < 1 || message.tagOf(last) != Tag.UNT) {
                return NO_TRAILER;
            }
            if (!message.spells(message.findComponent(last, 0, 0, 0), message.size())) {
                return WRONG_NUMBER;
            }
            int closing = message.findComponent(last, 1, 0, 0);
            int opening = message.findComponent(0, 0, 0, 0);
            return message.areSame(closing, opening) ? ALL_RIGHT : WRONG_REFERENCE;
        }

        private int faultBetween(Grammar grammar) {
            for (int segment = 1; segment < last; segment++) {
                if (!grammar.knows(message.tagOf(segment))) {
                    faultSegment = segment;
                    return UNKNOWN_TAG;
                }
            }
            next = 1;
            if (!walkRows(grammar, 0, grammar.size(), 0, NONE)) {
                return ROW_MISSING;
            }
            if (next < last) {
                faultSegment = next;
                return LEFT_OVER;
            }
            return ALL_RIGHT;
        }

        /** Walks over the rows of one level; false as soon as one is missing. */
        private boolean walkRows(Grammar grammar, int from, int to, int level, int above) {
            if (level > LEVEL_MOST) {
                return true;
            }
            for (int row = from; row < to; row++) {
                if (grammar.levelOf(row) == level && !walkRow(grammar, row, level, above)) {
                    return false;
                }
            }
            return true;
        }

        private boolean walkRow(Grammar grammar, int row, int level, int above) {
            int tag = grammar.tagOf(row);
            int most = grammar.mostOf(row);
            int end = grammar.endOfGroup(row);
            int times = 0;
            while (times < most && next < last && message.tagOf(next) == tag) {
                int mine = next;
                walkOver(mine, row, above);
                times++;
                if (!walkRows(grammar, row + 1, end, level + 1, mine)) {
                    return false;
                }
            }
            if (times < grammar.leastOf(row)) {
                faultSegment = next;
                faultRow = row;
                return false;
            }
            return true;
        }

        private void walkOver(int segment, int row, int above) {
            if (segment >= 0 && segment < rows.length && segment < aboves.length) {
                rows[segment] = row;
                aboves[segment] = above;
            }
            next++;
        }
    }

    /** Builds the message again; what is empty at the end of its whole is left out. */
    private static final class Writer {
        private final Message message;
        private final ServiceSigns signs;
        private final SignRow built;

        Writer(Message message, ServiceSigns signs, SignRow built) {
            this.message = message;
            this.signs = signs;
            this.built = built;
        }

        void write() {
            built.clear();
            for (int segment = 0; segment < message.size(); segment++) {
                writeTag(message.tagOf(segment));
                int kept = keptElements(segment);
                for (int i = 0; i < kept; i++) {
                    writeService(ServiceSigns.ELEMENT);
                    writeRepeats(message.elementAt(segment, i));
                }
                writeService(ServiceSigns.END);
            }
        }

        private void writeTag(int tag) {
            built.append(Tag.first(tag));
            built.append(Tag.second(tag));
            built.append(Tag.third(tag));
        }

        private void writeRepeats(int element) {
            int kept = keptRepeats(element);
            for (int i = 0; i < kept; i++) {
                if (i > 0) {
                    writeService(ServiceSigns.REPEAT);
                }
                writeComponents(message.repeatAt(element, i));
            }
        }

        private void writeComponents(int repeat) {
            int kept = keptComponents(repeat);
            for (int i = 0; i < kept; i++) {
                if (i > 0) {
                    writeService(ServiceSigns.COMPONENT);
                }
                writeLetters(message.componentAt(repeat, i));
            }
        }

        private void writeLetters(int component) {
            int length = message.lettersOf(component);
            for (int i = 0; i < length; i++) {
                int sign = message.letterAt(component, i);
                if (signs.numberOf(sign) != NONE) {
                    writeService(ServiceSigns.RELEASE);
                }
                built.append(sign);
            }
        }

        private void writeService(int number) {
            built.append(signs.signOf(number));
        }

        private int keptElements(int segment) {
            for (int kept = message.elementsOf(segment); kept > 0; kept--) {
                if (keptRepeats(message.elementAt(segment, kept - 1)) > 0) {
                    return kept;
                }
            }
            return 0;
        }

        private int keptRepeats(int element) {
            for (int kept = message.repeatsOf(element); kept > 0; kept--) {
                if (keptComponents(message.repeatAt(element, kept - 1)) > 0) {
                    return kept;
                }
            }
            return 0;
        }

        private int keptComponents(int repeat) {
            for (int kept = message.componentsOf(repeat); kept > 0; kept--) {
                if (message.lettersOf(message.componentAt(repeat, kept - 1)) > 0) {
                    return kept;
                }
            }
            return 0;
        }
    }
}
