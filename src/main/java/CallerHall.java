import java.util.Arrays;

/**
 * A hall for called dances: books of formations, figures and parts are read; calls move at once all whom they name;
 * parts are danced step by step, and back; the least rows of allowed steps that lead to an aim are found.
 */
public final class CallerHall {
    public static final int NONE = -1;
    public static final int OPEN = -2;

    private static final int MOST_DANCERS = 64;
    private static final int MOST_FORMS = 40;
    private static final int MOST_FIGURES = 100;
    private static final int MOST_PARTS = 60;
    private static final int MOST_ALLOWS = 32;
    private static final int MOST_SLOTS = 8;
    private static final int MOST_CALLS = 4;
    private static final int MOST_TOKENS = 6000;
    private static final int MOST_NESTED = 30;
    private static final int TAPE_BYTES = 4096;
    /** A squared floor has at most 64 columns and 64 rows. */
    private static final int SPOTS = 4096;
    private static final int NO_SEARCH = -3;
    /** Far above the turns that any loop bounded by it can take. */
    private static final int MANY = 1000000;

    private final Tokens tokens = new Tokens();
    private final Book book = new Book();
    private final Parser parser = new Parser(tokens, book);
    private final Caller caller = new Caller(book);
    private final Floor floor = new Floor();
    /** Where searches and times try things out, so that the dancers' own floor stays as it is. */
    private final Floor trial = new Floor();
    private final Run run = new Run(book, caller);
    private final Run trialRun = new Run(book, caller);
    private final History history = new History();
    private final Search search = new Search(book, caller, trial);
    private final int[] aim = new int[MOST_DANCERS];
    private int beats;
    private int steps;
    private int textFault;
    private int failedFor = NONE;
    private int failedWho = NONE;
    private int failedOther = NONE;

    public CallerHall() {
        floor.lay(Floor.SQUARE, 4);
        floor.copyCodes(aim);
    }

    public boolean feed(int a, int b, int c, int d, int e) {
        if (!tokens.hasRoom(20)) {
            return false;
        }
        tokens.append(a);
        tokens.append(b);
        tokens.append(c);
        tokens.append(d);
        tokens.append(e);
        return true;
    }

    public boolean end(int n) {
        return tokens.cut(n);
    }

    public int load() {
        tokens.read();
        parser.readBook();
        textFault = parser.wrongBy;
        return textFault == 0 ? 0 : -2 - parser.wrongPlace();
    }

    public int call() {
        tokens.read();
        int start = book.length;
        parser.readCall();
        textFault = parser.wrongBy;
        int answer = textFault == 0 ? danceAt(start) : -2 - parser.wrongPlace();
        book.length = start;
        return answer;
    }

    public int fault() {
        return textFault;
    }

    public int named(int sort) {
        tokens.read();
        parser.readName();
        textFault = parser.wrongBy;
        if (textFault != 0 || sort < 0 || sort > 2) {
            return NONE;
        }
        return parser.numberOfName(sort);
    }

    public boolean set(int kind, int n) {
        if (!Floor.isSet(kind, n)) {
            return false;
        }
        floor.lay(kind, n);
        floor.copyCodes(aim);
        history.clear();
        run.live = false;
        search.forget();
        beats = 0;
        steps = 0;
        return true;
    }

    public void mark() {
        floor.copyCodes(aim);
    }

    public boolean begin(int part) {
        if (part < 0 || part >= book.parts.size) {
            return false;
        }
        run.start(part, floor.everybody());
        return true;
    }

    public int step() {
        if (!run.live) {
            return NONE;
        }
        history.note(floor, run, beats, steps);
        int end = run.goOn(floor);
        if (end == Run.DANCED) {
            countStep();
            return end;
        }
        run.live = false;
        if (end == Run.FAILED) {
            noteFailure();
        }
        return end;
    }

    public boolean back(int n) {
        if (n < 0 || n > history.size) {
            return false;
        }
        Moment moment = history.latest(n);
        if (n > 0 && moment != null) {
            moment.restore(floor, run);
            beats = moment.beats;
            steps = moment.steps;
            history.drop(n);
        }
        return true;
    }

    public int failed(int i) {
        switch (i) {
            case 0:
                return failedFor;
            case 1:
                return failedWho;
            case 2:
                return failedOther;
            default:
                return NONE;
        }
    }

    public int may(int i) {
        if (i < 0 || i >= book.allows) {
            return NONE;
        }
        int why = caller.attempt(book.allowStart[i], floor, floor.everybody());
        if (why != 0) {
            noteFailure();
        }
        return why;
    }

    public int resolve(int depth) {
        if (depth < 0 || depth > Search.MOST_DEPTH || floor.size > Search.MOST_SEARCHED) {
            return NO_SEARCH;
        }
        return search.explore(depth, floor, aim);
    }

    public long rows() {
        return search.countRows();
    }

    public boolean row(int k) {
        return search.choose(k);
    }

    public boolean draw(int a, int b) {
        return search.choose(highProduct(a & 0xFFFFFFFFL, b & 0xFFFFFFFFL, search.countRows()));
    }

    public int cheapest() {
        return search.chooseCheapest();
    }

    public int found(int i) {
        return search.chosenStep(i);
    }

    public int follow() {
        int next = search.chosenStep(search.nextStep);
        if (next < 0 || next >= book.allows) {
            return NONE;
        }
        int why = danceAt(book.allowStart[next]);
        if (why == 0) {
            search.nextStep++;
        }
        return why;
    }

    public int times(int part, int kind, int n) {
        if (part < 0 || part >= book.parts.size || !Floor.isSet(kind, n)) {
            return NONE;
        }
        trial.lay(kind, n);
        trialRun.limit();
        for (int time = 1; time <= 100; time++) {
            trialRun.start(part, trial.everybody());
            int end = Run.DANCED;
            for (int i = 0; i < MANY && end == Run.DANCED; i++) {
                end = trialRun.goOn(trial);
            }
            if (end != Run.ENDED) {
                return end == Run.OVER ? OPEN : NONE;
            }
            if (trial.isAt(trial.home)) {
                return time;
            }
        }
        return NONE;
    }

    public int dancer(int d, int what) {
        if (d < 0 || d >= floor.size) {
            return NONE;
        }
        switch (what) {
            case 0:
                return floor.x[d];
            case 1:
                return floor.y[d];
            case 2:
                return floor.facing[d];
            case 3:
                return floor.turned[d];
            default:
                return NONE;
        }
    }

    public int at(int x, int y) {
        return floor.whoIsAt(x, y);
    }

    public int about(int what) {
        switch (what) {
            case 0:
                return floor.size;
            case 1:
                return beats;
            case 2:
                return steps;
            case 3:
                return history.size;
            case 4:
                return floor.isAt(floor.home) ? 1 : 0;
            case 5:
                return floor.isAt(aim) ? 1 : 0;
            case 6:
                return book.forms.size;
            case 7:
                return book.figures.size;
            case 8:
                return book.parts.size;
            case 9:
                return book.allows;
            case 10:
                return run.live ? 1 : 0;
            case 11:
                return search.seen;
            case 12:
                return tokens.bytes;
            case 13:
                return book.tokens;
            default:
                return NONE;
        }
    }

    /** Dances the step whose code begins at a place; answers what it fails for. */
    private int danceAt(int start) {
        int why = caller.attempt(start, floor, floor.everybody());
        if (why != 0) {
            noteFailure();
            return why;
        }
        history.note(floor, run, beats, steps);
        caller.settle(floor);
        countStep();
        return 0;
    }

    private void countStep() {
        history.keep();
        beats += caller.beats;
        steps++;
    }

    private void noteFailure() {
        failedFor = caller.why;
        failedWho = caller.whom;
        failedOther = caller.other;
    }

    /** (high * 2 to the 32 + low) * factor / 2 to the 64, by halves, since the product has more bits than a long. */
    private static long highProduct(long high, long low, long factor) {
        long factorHigh = factor >>> 32;
        long factorLow = factor & 0xFFFFFFFFL;
        long upper = high * factorLow + (low * factorLow >>> 32);
        long middle = low * factorHigh + (upper & 0xFFFFFFFFL);
        return high * factorHigh + (upper >>> 32) + (middle >>> 32);
    }

    /** Up to eight bytes as one number, so that words are compared without making texts. */
    private static long lettersOf(byte[] text, int from, int to) {
        long letters = 0;
        for (int i = 0; i < 8; i++) {
            letters <<= 8;
            if (from + i < to && from + i < text.length) {
                letters |= text[from + i] & 255;
            }
        }
        return letters;
    }

    /** The tape, and the tokens that it is parted into. */
    private static final class Tokens {
        static final int FORM = 0;
        static final int FIGURE = 1;
        static final int PART = 2;
        static final int ALLOW = 3;
        static final int ON = 4;
        static final int COUNTS = 5;
        static final int PRICE = 6;
        static final int DO = 7;
        static final int REPEAT = 8;
        static final int UNTIL = 9;
        static final int MOST = 10;
        static final int IF = 11;
        static final int ELSE = 12;
        static final int FOR = 13;
        static final int ALL = 14;
        static final int LARKS = 15;
        static final int ROBINS = 16;
        static final int HEADS = 17;
        static final int SIDES = 18;
        static final int COUPLE = 19;
        static final int DANCER = 20;
        static final int FACING = 21;
        static final int IN = 22;
        static final int AT = 23;
        static final int OR = 24;
        static final int AND = 25;
        static final int NOT = 26;
        static final int HOME = 27;
        static final int COUNT = 28;
        static final int IS = 29;
        static final int FORMS = 30;
        static final int UP = 31;
        static final int LEFT = 34;
        static final int ANY = 35;
        static final int LARK = 36;
        static final int ROBIN = 37;
        static final int NAME = 38;
        static final int NUMBER = 39;
        static final int BLOCK = 40;
        static final int BLOCK_END = 41;
        static final int GROUP = 42;
        static final int GROUP_END = 43;
        static final int COMMA = 44;
        static final int SEMICOLON = 45;
        static final int EQUALS = 46;
        static final int AMPERSAND = 47;
        static final int TEXT_END = 48;
        static final int NO_TOKEN = 49;

        private static final int KEYWORDS = 38;
        /** In the order of the numbers above, each with a blank behind it. */
        private static final String WORDS = "form figure part allow on counts price do repeat until most if else for all larks robins heads sides couple dancer facing in at or and not home count is forms n e s w any lark robin ";
        /** In the order of BLOCK .. AMPERSAND. */
        private static final String SIGNS = "{}(),;=&";
        private static final int MOST_LETTERS = 24;
        private static final int MOST_DIGITS = 5;

        private final byte[] tape = new byte[TAPE_BYTES];
        int bytes;
        private final long[] keywords = new long[KEYWORDS];
        /** A token takes a byte at least; the text's end and one that is none may come behind. */
        final int[] kinds = new int[TAPE_BYTES + 2];
        final int[] values = new int[TAPE_BYTES + 2];
        private final int[] starts = new int[TAPE_BYTES + 2];
        /** Of each word, in three numbers. */
        final long[] letters = new long[3 * (TAPE_BYTES + 2)];
        int count;

        Tokens() {
            int word = 0;
            for (int i = 0; i < WORDS.length() && word < KEYWORDS; i++) {
                char c = WORDS.charAt(i);
                if (c == ' ') {
                    // as lettersOf has them: the first letter in the highest byte
                    for (int shift = 0; shift < 8 && keywords[word] >>> 56 == 0; shift++) {
                        keywords[word] <<= 8;
                    }
                    word++;
                } else {
                    keywords[word] = keywords[word] << 8 | c;
                }
            }
        }

        boolean hasRoom(int more) {
            return bytes + more <= TAPE_BYTES;
        }

        void append(int four) {
            for (int shift = 24; shift >= 0 && bytes < TAPE_BYTES; shift -= 8) {
                tape[bytes] = (byte) (four >>> shift);
                bytes++;
            }
        }

        boolean cut(int n) {
            if (n < 0 || n > bytes) {
                return false;
            }
            bytes = n;
            return true;
        }

        /** Parts the tape into tokens up to the first place where none stands; the tape is empty then. */
        void read() {
            count = 0;
            int place = skipBlanks(0);
            for (int i = 0; i < TAPE_BYTES && place >= 0 && place < bytes; i++) {
                place = readToken(place);
                if (place >= 0) {
                    place = skipBlanks(place);
                }
            }
            put(TEXT_END, 0, bytes);
            bytes = 0;
        }

        int startOf(int i) {
            return i >= 0 && i < count ? starts[i] : 0;
        }

        private void put(int kind, int value, int start) {
            if (count < kinds.length) {
                kinds[count] = kind;
                values[count] = value;
                starts[count] = start;
                count++;
            }
        }

        private int byteAt(int place) {
            return place >= 0 && place < bytes ? tape[place] & 255 : 0;
        }

        private int skipBlanks(int from) {
            boolean remark = false;
            for (int place = from; place < bytes; place++) {
                int c = byteAt(place);
                boolean blank = c == 9 || c == 10 || c == 13 || c == 32;
                if (c == '#') {
                    remark = true;
                } else if (c == 10) {
                    remark = false;
                } else if (!blank && !remark) {
                    return place;
                }
            }
            return bytes;
        }

        /** The place behind the token, NONE if there is no token. */
        private int readToken(int from) {
            int c = byteAt(from);
            if (isLetter(c)) {
                return readWord(from);
            }
            if (c == '-' || isDigit(c)) {
                return readNumber(from);
            }
            int sign = SIGNS.indexOf((char) c);
            put(sign < 0 ? NO_TOKEN : BLOCK + sign, 0, from);
            return sign < 0 ? NONE : from + 1;
        }

        private int readWord(int from) {
            int to = from + 1;
            while (to < bytes && (isLetter(byteAt(to)) || isDigit(byteAt(to)) || byteAt(to) == '_')) {
                to++;
            }
            if (to - from > MOST_LETTERS) {
                put(NO_TOKEN, 0, from);
                return NONE;
            }
            for (int i = 0; i < 3 && 3 * count + i < letters.length; i++) {
                letters[3 * count + i] = lettersOf(tape, from + 8 * i, to);
            }
            put(to - from > 8 ? NAME : kindOfWord(lettersOf(tape, from, to)), 0, from);
            return to;
        }

        private int kindOfWord(long letters) {
            for (int i = 0; i < KEYWORDS; i++) {
                if (keywords[i] == letters) {
                    return i;
                }
            }
            return NAME;
        }

        private int readNumber(int from) {
            boolean negative = byteAt(from) == '-';
            int first = negative ? from + 1 : from;
            int to = first;
            int value = 0;
            while (to < bytes && isDigit(byteAt(to))) {
                if (to - first < MOST_DIGITS) {
                    value = 10 * value + byteAt(to) - '0';
                }
                to++;
            }
            boolean good = to > first && to - first <= MOST_DIGITS;
            put(good ? NUMBER : NO_TOKEN, negative ? -value : value, from);
            return good ? to : NONE;
        }

        private static boolean isLetter(int c) {
            return c >= 'a' && c <= 'z' || c >= 'A' && c <= 'Z';
        }

        private static boolean isDigit(int c) {
            return c >= '0' && c <= '9';
        }
    }

    /** The names of one sort, as they were told, each held as three numbers of eight letters. */
    private static final class Names {
        private final long[] letters;
        private final int most;
        int size;

        Names(int most) {
            this.most = most;
            letters = new long[3 * most];
        }

        boolean isFull() {
            return size >= most;
        }

        /** The number of the name that stands as the i-th among some words. */
        int find(long[] words, int i) {
            if (i < 0 || 3 * i + 2 >= words.length) {
                return NONE;
            }
            for (int name = 0; name < size; name++) {
                if (letters[3 * name] == words[3 * i] && letters[3 * name + 1] == words[3 * i + 1]
                        && letters[3 * name + 2] == words[3 * i + 2]) {
                    return name;
                }
            }
            return NONE;
        }

        void add(long[] words, int i) {
            if (size < most && i >= 0 && 3 * i + 2 < words.length) {
                System.arraycopy(words, 3 * i, letters, 3 * size, 3);
                size++;
            }
        }
    }

    /**
     * All that books have told. Parts and allowed steps are held as code: whom a WHO means and what a CONDITION
     * comes to are told behind what they are made of, so that a row of values is all that is needed to find it out.
     */
    private static final class Book {
        // These come to a value: the first eight in the order of the words all .. facing.
        static final int ALL = 0;
        static final int LARKS = 1;
        static final int ROBINS = 2;
        static final int HEADS = 3;
        static final int SIDES = 4;
        static final int COUPLE = 5;
        static final int DANCER = 6;
        static final int FACING = 7;
        static final int IN = 8;
        static final int AT = 9;
        static final int AND = 10;
        static final int OR = 11;
        static final int NOT = 12;
        static final int HOME = 13;
        static final int COUNT = 14;
        static final int FORMS = 15;
        static final int DENY = 16;
        // These stand behind values, or between them.
        static final int FIGURE = 17;
        static final int DANCE = 18;
        static final int DO = 19;
        static final int REPEAT = 20;
        static final int TIME = 21;
        static final int MOST = 22;
        static final int LOOK = 23;
        static final int LEAVE = 24;
        static final int UNLESS = 25;
        static final int JUMP = 26;
        static final int FOR = 27;
        static final int FOR_END = 28;
        static final int RETURN = 29;

        static final int ANY_FACING = 4;
        static final int ANY_ROLE = 2;
        private static final int KIND_BITS = 6;

        final Names forms = new Names(MOST_FORMS);
        final Names figures = new Names(MOST_FIGURES);
        final Names parts = new Names(MOST_PARTS);
        final int[] slots = new int[MOST_FORMS];
        /** A slot's place in each of the four turns of a copy: these are looked at most often of all. */
        final int[] slotX = new int[MOST_FORMS * MOST_SLOTS * 4];
        final int[] slotY = new int[MOST_FORMS * MOST_SLOTS * 4];
        /** A slot's facing, and 8 times its role (0 lark, 1 robin). */
        final int[] slotLook = new int[MOST_FORMS * MOST_SLOTS];
        final int[] figureForm = new int[MOST_FIGURES];
        final int[] figureCounts = new int[MOST_FIGURES];
        final int[] figurePrice = new int[MOST_FIGURES];
        final int[] toX = new int[MOST_FIGURES * MOST_SLOTS];
        final int[] toY = new int[MOST_FIGURES * MOST_SLOTS];
        final int[] toTurn = new int[MOST_FIGURES * MOST_SLOTS];
        final int[] partStart = new int[MOST_PARTS];
        final int[] allowStart = new int[MOST_ALLOWS];
        final int[] allowPrice = new int[MOST_ALLOWS];
        int allows;
        /** No longer than the tokens it is made of; the step of a call stands behind all parts for a while. */
        final int[] code = new int[MOST_TOKENS + TAPE_BYTES + 2];
        int length;
        int tokens;

        Names namesOf(int sort) {
            return sort == 0 ? forms : sort == 1 ? figures : parts;
        }

        int kindAt(int place) {
            return place >= 0 && place < length ? code[place] & (1 << KIND_BITS) - 1 : RETURN;
        }

        int valueAt(int place) {
            return place >= 0 && place < length ? code[place] >> KIND_BITS : 0;
        }

        /** Puts code behind all that there is; answers where. */
        int put(int kind, int value) {
            int place = length;
            if (place < code.length) {
                code[place] = value << KIND_BITS | kind;
                length++;
            }
            return place;
        }

        /** What could not be known yet when the code was put. */
        void patch(int place, int value) {
            if (place >= 0 && place < length) {
                code[place] = value << KIND_BITS | kindAt(place);
            }
        }

        boolean hasSlot(int form, int x, int y) {
            for (int slot = 0; slot < slots[form]; slot++) {
                int i = (form * MOST_SLOTS + slot) * 4;
                if (slotX[i] == x && slotY[i] == y) {
                    return true;
                }
            }
            return false;
        }

        void addSlot(int form, int x, int y, int look) {
            int slot = form * MOST_SLOTS + slots[form];
            for (int turn = 0; turn < 4; turn++) {
                slotX[slot * 4 + turn] = turnedX(x, y, turn);
                slotY[slot * 4 + turn] = turnedY(x, y, turn);
            }
            slotLook[slot] = look;
            slots[form]++;
        }

        void addAllow(int start, int price) {
            if (allows < MOST_ALLOWS) {
                allowStart[allows] = start;
                allowPrice[allows] = price;
                allows++;
            }
        }

        static int turnedX(int x, int y, int turn) {
            switch (turn) {
                case 0:
                    return x;
                case 1:
                    return y;
                case 2:
                    return -x;
                default:
                    return -y;
            }
        }

        static int turnedY(int x, int y, int turn) {
            return turnedX(y, -x, turn);
        }
    }

    /** Reads tokens into the book; each reading method answers whether the text is without fault so far. */
    private static final class Parser {
        private final Tokens tokens;
        private final Book book;
        /** The token at hand: its number, and what it is. */
        private int next;
        private int kind;
        private int value;
        int wrongBy;
        private int nested;
        /** Whether the tokens taken now are those of a part or an allowed step. */
        private boolean counted;
        /** What the latest number was that was taken, and which one the latest name. */
        private int number;
        private int index;
        /** How many in, at, forms the condition, or the WHO of a for, has so far. */
        private int looks;
        private int price;
        /** What the book had before this one. */
        private final int[] saved = new int[6];

        Parser(Tokens tokens, Book book) {
            this.tokens = tokens;
            this.book = book;
        }

        /** Reads a book; of one at fault nothing is left. */
        void readBook() {
            save();
            startText();
            boolean good = true;
            for (int i = 0; i < TAPE_BYTES && good && kind != Tokens.TEXT_END; i++) {
                switch (kind) {
                    case Tokens.FORM:
                        good = readForm();
                        break;
                    case Tokens.FIGURE:
                        good = readFigure();
                        break;
                    case Tokens.PART:
                        good = readPart();
                        break;
                    case Tokens.ALLOW:
                        good = readAllow();
                        break;
                    default:
                        good = wrong(1);
                        break;
                }
            }
            if (!good) {
                revert();
            }
        }

        void readCall() {
            startText();
            if (readStep() && kind != Tokens.TEXT_END) {
                wrong(1);
            }
        }

        void readName() {
            startText();
            if (take(Tokens.NAME) && kind != Tokens.TEXT_END) {
                wrong(1);
            }
        }

        /** Of the text that was a name alone. */
        int numberOfName(int sort) {
            return book.namesOf(sort).find(tokens.letters, 0);
        }

        /** Where the token stands that is at fault. */
        int wrongPlace() {
            return tokens.startOf(next);
        }

        private void startText() {
            next = 0;
            kind = tokens.kinds[0];
            value = tokens.values[0];
            wrongBy = 0;
            nested = 0;
            counted = false;
        }

        private void save() {
            saved[0] = book.forms.size;
            saved[1] = book.figures.size;
            saved[2] = book.parts.size;
            saved[3] = book.allows;
            saved[4] = book.length;
            saved[5] = book.tokens;
        }

        private void revert() {
            book.forms.size = saved[0];
            book.figures.size = saved[1];
            book.parts.size = saved[2];
            book.allows = saved[3];
            book.length = saved[4];
            book.tokens = saved[5];
        }

        private boolean wrong(int by) {
            wrongBy = by;
            return false;
        }

        /** Goes behind a token in which nothing lesser is wrong than that it is one too many. */
        private boolean pass() {
            if (counted && book.tokens >= MOST_TOKENS) {
                wrongBy = 5;
                return false;
            }
            book.tokens += counted ? 1 : 0;
            next++;
            boolean more = next < tokens.count;
            kind = more ? tokens.kinds[next] : Tokens.TEXT_END;
            value = more ? tokens.values[next] : 0;
            return true;
        }

        private boolean take(int wanted) {
            return kind == wanted ? pass() : wrong(1);
        }

        /** How the token at hand is wrong where a number is wanted. */
        private int numberFault(int least, int most) {
            if (kind != Tokens.NUMBER) {
                return 1;
            }
            number = value;
            return number < least || number > most ? 4 : 0;
        }

        private boolean takeNumber(int least, int most) {
            int by = numberFault(least, most);
            return by == 0 ? pass() : wrong(by);
        }

        private boolean takeKnown(Names names) {
            if (kind != Tokens.NAME) {
                return wrong(1);
            }
            index = names.find(tokens.letters, next);
            return index < 0 ? wrong(2) : pass();
        }

        private boolean takeNew() {
            if (kind != Tokens.NAME) {
                return wrong(1);
            }
            for (int sort = 0; sort < 3; sort++) {
                if (book.namesOf(sort).find(tokens.letters, next) >= 0) {
                    return wrong(3);
                }
            }
            return pass();
        }

        private boolean readForm() {
            int form = book.forms.size;
            if (book.forms.isFull()) {
                return wrong(5);
            }
            if (!pass() || !takeNew()) {
                return false;
            }
            book.forms.add(tokens.letters, next - 1);
            book.slots[form] = 0;
            if (!take(Tokens.EQUALS)) {
                return false;
            }
            for (int slot = 0; slot <= MOST_SLOTS; slot++) {
                if (!readSlot(form)) {
                    return false;
                }
                if (kind != Tokens.COMMA) {
                    return take(Tokens.SEMICOLON);
                }
                pass();
            }
            return false;
        }

        private boolean readSlot(int form) {
            int by = numberFault(-32, 32);
            if (by == 0 && book.slots[form] >= MOST_SLOTS) {
                by = 5;
            }
            if (by != 0) {
                return wrong(by);
            }
            int x = number;
            pass();
            by = numberFault(-32, 32);
            if (by == 0 && book.hasSlot(form, x, number)) {
                by = 7;
            }
            if (by != 0) {
                return wrong(by);
            }
            int y = number;
            pass();
            int facing = kind - Tokens.UP;
            if (facing < 0 || facing > Book.ANY_FACING) {
                return wrong(1);
            }
            pass();
            int role = Book.ANY_ROLE;
            if (kind == Tokens.LARK || kind == Tokens.ROBIN) {
                role = kind - Tokens.LARK;
                pass();
            }
            book.addSlot(form, x, y, facing + 8 * role);
            return true;
        }

        private boolean readFigure() {
            int figure = book.figures.size;
            if (book.figures.isFull()) {
                return wrong(5);
            }
            if (!pass() || !takeNew()) {
                return false;
            }
            book.figures.add(tokens.letters, next - 1);
            if (!take(Tokens.ON) || !takeKnown(book.forms)) {
                return false;
            }
            int form = index;
            book.figureForm[figure] = form;
            if (!take(Tokens.COUNTS) || !takeNumber(0, 64)) {
                return false;
            }
            book.figureCounts[figure] = number;
            if (!take(Tokens.PRICE) || !takeNumber(0, 1000)) {
                return false;
            }
            book.figurePrice[figure] = number;
            return take(Tokens.EQUALS) && readGoals(figure, book.slots[form]);
        }

        /** Where those in the slots go: exactly as many as there are slots. */
        private boolean readGoals(int figure, int slots) {
            for (int slot = 0; slot < slots; slot++) {
                if (slot > 0) {
                    if (kind == Tokens.SEMICOLON) {
                        return wrong(6);
                    }
                    if (!take(Tokens.COMMA)) {
                        return false;
                    }
                }
                if (!readGoal(figure * MOST_SLOTS + slot)) {
                    return false;
                }
            }
            return kind == Tokens.COMMA ? wrong(6) : take(Tokens.SEMICOLON);
        }

        private boolean readGoal(int goal) {
            if (!takeNumber(-32, 32)) {
                return false;
            }
            book.toX[goal] = number;
            if (!takeNumber(-32, 32)) {
                return false;
            }
            book.toY[goal] = number;
            if (!takeNumber(-8, 8)) {
                return false;
            }
            book.toTurn[goal] = number;
            return true;
        }

        private boolean readPart() {
            counted = true;
            int start = book.length;
            int name = next + 1;
            if (book.parts.isFull()) {
                return wrong(5);
            }
            if (!pass() || !takeNew() || !readBlock()) {
                return false;
            }
            book.put(Book.RETURN, 0);
            // only now, since a part does not know itself
            book.partStart[book.parts.size] = start;
            book.parts.add(tokens.letters, name);
            counted = false;
            return true;
        }

        private boolean readAllow() {
            counted = true;
            int start = book.length;
            if (book.allows >= MOST_ALLOWS) {
                return wrong(5);
            }
            if (!pass() || !readStep() || !take(Tokens.SEMICOLON)) {
                return false;
            }
            book.addAllow(start, price);
            counted = false;
            return true;
        }

        /** Takes a { ( or not, unless it is one too many in one another. */
        private boolean nest() {
            if (nested >= MOST_NESTED) {
                return wrong(5);
            }
            nested++;
            return pass();
        }

        private boolean readBlock() {
            if (kind != Tokens.BLOCK) {
                return wrong(1);
            }
            if (!nest()) {
                return false;
            }
            for (int i = 0; i < TAPE_BYTES && kind != Tokens.BLOCK_END; i++) {
                if (!readStatement()) {
                    return false;
                }
            }
            nested--;
            return take(Tokens.BLOCK_END);
        }

        private boolean readStatement() {
            switch (kind) {
                case Tokens.DO:
                    return readDo();
                case Tokens.REPEAT:
                    return readRepeat();
                case Tokens.UNTIL:
                    return readUntil();
                case Tokens.IF:
                    return readIf();
                case Tokens.FOR:
                    return readFor();
                default:
                    return readStep() && take(Tokens.SEMICOLON);
            }
        }

        private boolean readDo() {
            if (!pass() || !takeKnown(book.parts)) {
                return false;
            }
            book.put(Book.DO, index);
            return take(Tokens.SEMICOLON);
        }

        private boolean readRepeat() {
            if (!pass() || !takeNumber(1, 64)) {
                return false;
            }
            book.put(Book.REPEAT, number);
            int time = book.put(Book.TIME, 0);
            if (!readBlock()) {
                return false;
            }
            book.put(Book.JUMP, time);
            book.patch(time, book.length);
            return true;
        }

        private boolean readUntil() {
            int repeat = book.put(Book.REPEAT, 0);
            int time = book.put(Book.MOST, 0);
            int look = putLook();
            if (!pass() || !readEither(true) || !take(Tokens.MOST) || !takeNumber(1, 64)) {
                return false;
            }
            book.patch(repeat, number);
            book.patch(look, 1 + looks);
            int leave = book.put(Book.LEAVE, 0);
            if (!readBlock()) {
                return false;
            }
            book.put(Book.JUMP, time);
            book.patch(time, book.length);
            book.patch(leave, book.length);
            return true;
        }

        private boolean readIf() {
            int look = putLook();
            if (!pass() || !readEither(true)) {
                return false;
            }
            book.patch(look, 1 + looks);
            int unless = book.put(Book.UNLESS, 0);
            if (!readBlock()) {
                return false;
            }
            if (kind != Tokens.ELSE) {
                book.patch(unless, book.length);
                return true;
            }
            int behind = book.put(Book.JUMP, 0);
            book.patch(unless, book.length);
            if (!pass() || !readBlock()) {
                return false;
            }
            book.patch(behind, book.length);
            return true;
        }

        private boolean readFor() {
            int look = putLook();
            if (!pass() || !readEither(false)) {
                return false;
            }
            book.patch(look, 1 + looks);
            book.put(Book.FOR, 0);
            if (!readBlock()) {
                return false;
            }
            book.put(Book.FOR_END, 0);
            return true;
        }

        /** Stands ahead of a condition, or the WHO of a for; how many acts that is is known behind it. */
        private int putLook() {
            looks = 0;
            return book.put(Book.LOOK, 0);
        }

        private boolean readStep() {
            price = 0;
            for (int i = 0; i < MOST_CALLS; i++) {
                if (!readEither(false) || !takeKnown(book.figures)) {
                    return false;
                }
                book.put(Book.FIGURE, index);
                price += book.figurePrice[index];
                if (kind != Tokens.AMPERSAND) {
                    book.put(Book.DANCE, 0);
                    return true;
                }
                if (i + 1 == MOST_CALLS) {
                    return wrong(5);
                }
                if (!pass()) {
                    return false;
                }
            }
            return false;
        }

        /** A condition or a WHO: those parted by or. */
        private boolean readEither(boolean condition) {
            if (!readBoth(condition)) {
                return false;
            }
            for (int i = 0; i < TAPE_BYTES && kind == Tokens.OR; i++) {
                if (!pass() || !readBoth(condition)) {
                    return false;
                }
                book.put(Book.OR, 0);
            }
            return true;
        }

        private boolean readBoth(boolean condition) {
            if (!readSingle(condition)) {
                return false;
            }
            for (int i = 0; i < TAPE_BYTES && kind == Tokens.AND; i++) {
                if (!pass() || !readSingle(condition)) {
                    return false;
                }
                book.put(Book.AND, 0);
            }
            return true;
        }

        private boolean readSingle(boolean condition) {
            return condition ? readTest() : readOne();
        }

        private boolean readNot(boolean condition) {
            if (!nest() || !readSingle(condition)) {
                return false;
            }
            nested--;
            book.put(condition ? Book.DENY : Book.NOT, 0);
            return true;
        }

        private boolean readGroup(boolean condition) {
            if (!nest() || !readEither(condition)) {
                return false;
            }
            nested--;
            return take(Tokens.GROUP_END);
        }

        private boolean readTest() {
            switch (kind) {
                case Tokens.NOT:
                    return readNot(true);
                case Tokens.GROUP:
                    return readGroup(true);
                case Tokens.HOME:
                    book.put(Book.HOME, 0);
                    return pass();
                case Tokens.COUNT:
                    if (!pass() || !readEither(false) || !take(Tokens.IS) || !takeNumber(0, 64)) {
                        return false;
                    }
                    book.put(Book.COUNT, number);
                    return true;
                case Tokens.FORMS:
                    return readForms();
                default:
                    return wrong(1);
            }
        }

        private boolean readForms() {
            looks++;
            if (!pass() || !takeKnown(book.forms)) {
                return false;
            }
            int form = index;
            if (!readEither(false)) {
                return false;
            }
            book.put(Book.FORMS, form);
            return true;
        }

        private boolean readOne() {
            int word = kind;
            if (word == Tokens.NOT) {
                return readNot(false);
            }
            if (word == Tokens.GROUP) {
                return readGroup(false);
            }
            if (word < Tokens.ALL || word > Tokens.AT) {
                return wrong(1);
            }
            if (!pass()) {
                return false;
            }
            int meant = 0;
            boolean good = true;
            if (word == Tokens.COUPLE || word == Tokens.DANCER) {
                good = takeNumber(0, word == Tokens.COUPLE ? 31 : 63);
                meant = number;
            } else if (word == Tokens.FACING) {
                meant = kind - Tokens.UP;
                good = kind >= Tokens.UP && kind <= Tokens.LEFT ? pass() : wrong(1);
            } else if (word == Tokens.IN || word == Tokens.AT) {
                looks++;
                good = takeKnown(book.forms);
                meant = index;
            }
            if (good && word == Tokens.AT) {
                good = takeNumber(0, book.slots[meant] - 1);
                meant = meant * MOST_SLOTS + number;
            }
            book.put(Book.ALL + word - Tokens.ALL, meant);
            return good;
        }
    }

    /**
     * Where the dancers of a set are. A place with a facing is told by one number, its CODE:
     * ((Y / 4) * 64 + X / 4) * 4 + facing; a squared floor has no places but those.
     */
    private static final class Floor {
        static final int SQUARE = 0;
        static final int PROPER = 1;
        static final int IMPROPER = 2;
        static final int BECKET = 3;
        static final int CODE_BITS = 14;
        private static final int MOST_PLACE = 252;
        private static final int[] SQUARE_X = {4, 8, 12, 12, 8, 4, 0, 0};
        private static final int[] SQUARE_Y = {0, 0, 4, 8, 12, 12, 8, 4};

        final int[] x = new int[MOST_DANCERS];
        final int[] y = new int[MOST_DANCERS];
        final int[] facing = new int[MOST_DANCERS];
        final int[] turned = new int[MOST_DANCERS];
        final int[] home = new int[MOST_DANCERS];
        /** The dancers by Y, of one Y by X. */
        final int[] order = new int[MOST_DANCERS];
        /** Who faces each of the four ways. */
        final long[] facers = new long[4];
        /** 1 + who is there. */
        private final byte[] seats = new byte[SPOTS];
        int size;
        /** Grows when anybody moves: what was found out about the dancers before holds no more. */
        int version;

        static boolean isSet(int kind, int couples) {
            if (kind == SQUARE) {
                return couples == 4;
            }
            return kind >= PROPER && kind <= BECKET && couples >= 1 && couples <= 32;
        }

        static int codeOf(int x, int y, int facing) {
            return ((y << 4) + (x >> 2)) << 2 | facing;
        }

        private static int startOf(int kind, int dancer) {
            int couple = dancer >> 1;
            int robin = dancer & 1;
            int odd = couple & 1;
            switch (kind) {
                case SQUARE:
                    return codeOf(SQUARE_X[dancer & 7], SQUARE_Y[dancer & 7], -couple & 3);
                case PROPER:
                    return codeOf(4 * robin, 4 * couple, 1 + 2 * robin);
                case IMPROPER:
                    return codeOf(4 * (robin ^ odd), 4 * couple, 2 * odd);
                default:
                    return codeOf(4 * odd, 8 * (couple >> 1) + 4 * (1 ^ robin ^ odd), 1 + 2 * odd);
            }
        }

        void lay(int kind, int couples) {
            int dancers = Math.min(2 * couples, MOST_DANCERS);
            for (int d = 0; d < dancers; d++) {
                home[d] = startOf(kind, d);
                turned[d] = 0;
            }
            place(home, dancers);
        }

        /** Puts dancers where their codes tell, in place of all who were there. */
        void place(int[] codes, int dancers) {
            for (int d = 0; d < size; d++) {
                seats[codeAt(d) >> 2] = 0;
            }
            size = Math.min(dancers, Math.min(codes.length, MOST_DANCERS));
            Arrays.fill(facers, 0L);
            for (int d = 0; d < size; d++) {
                int spot = codes[d] >> 2 & SPOTS - 1;
                x[d] = (spot & 63) << 2;
                y[d] = spot >> 6 << 2;
                facing[d] = codes[d] & 3;
                facers[facing[d]] |= 1L << d;
                seats[spot] = (byte) (d + 1);
            }
            sort();
            version++;
        }

        private void sort() {
            for (int d = 0; d < size; d++) {
                int spot = codeAt(d) >> 2;
                int i = d;
                while (i > 0 && codeAt(order[i - 1]) >> 2 > spot) {
                    order[i] = order[i - 1];
                    i--;
                }
                order[i] = d;
            }
        }

        int codeAt(int d) {
            return codeOf(x[d], y[d], facing[d]);
        }

        void copyCodes(int[] codes) {
            for (int d = 0; d < size && d < codes.length; d++) {
                codes[d] = codeAt(d);
            }
        }

        boolean isAt(int[] codes) {
            for (int d = 0; d < size && d < codes.length; d++) {
                if (codes[d] != codeAt(d)) {
                    return false;
                }
            }
            return true;
        }

        int whoIsAt(int atX, int atY) {
            if (atX < 0 || atY < 0 || atX > MOST_PLACE || atY > MOST_PLACE || ((atX | atY) & 3) != 0) {
                return NONE;
            }
            return seats[(atY << 4) + (atX >> 2)] - 1;
        }

        long everybody() {
            return size >= 64 ? -1L : (1L << size) - 1;
        }

        int firstDancerOf(long some) {
            int first = firstOf(some, 0);
            return first < size ? order[first] : NONE;
        }

        /** The first of some dancers in order, by where it stands there; size if there is nobody. */
        int firstOf(long some, int from) {
            for (int i = from; i < size; i++) {
                if ((some >>> order[i] & 1) != 0) {
                    return i;
                }
            }
            return size;
        }
    }

    /** Copies of forms: those that fit, greedy ones, partitions. A copy for a dancer is 4 * slot + turn. */
    private static final class Copies {
        static final int UNPARTED = 3;
        static final int TOO_HARD = 4;
        private static final int MOST_TRIED = 400;

        private final Book book;
        private final byte[] slotOf = new byte[MOST_FORMS * MOST_DANCERS];
        private final byte[] known = new byte[MOST_FORMS];
        private Floor knownFloor;
        private int knownVersion;
        private long knownScope;
        /** Of the latest partition: the one whom each copy was found for (its place in order), and which one it is. */
        private final int[] firsts = new int[MOST_DANCERS + 1];
        private final int[] chosen = new int[MOST_DANCERS + 1];
        private final long[] members = new long[MOST_DANCERS + 1];
        int parted;

        Copies(Book book) {
            this.book = book;
        }

        int firstAt(int i) {
            return firsts[i];
        }

        int copyAt(int i) {
            return chosen[i];
        }

        /** Who stands in a copy, if it fits some dancers; else 0. */
        private long membersOf(Floor floor, int form, int copy, int dancer, long some) {
            int turn = copy & 3;
            int base = form * MOST_SLOTS * 4;
            int left = floor.x[dancer] - book.slotX[base + copy];
            int low = floor.y[dancer] - book.slotY[base + copy];
            long found = 0;
            for (int slot = 0; slot < book.slots[form]; slot++) {
                int own = base + 4 * slot + turn;
                int who = floor.whoIsAt(left + book.slotX[own], low + book.slotY[own]);
                if (who < 0 || (some >>> who & 1) == 0) {
                    return 0;
                }
                int look = book.slotLook[form * MOST_SLOTS + slot];
                int facing = look & 7;
                int role = look >> 3;
                if (facing != Book.ANY_FACING && (facing + turn & 3) != floor.facing[who]
                        || role != Book.ANY_ROLE && role != (who & 1)) {
                    return 0;
                }
                found |= 1L << who;
            }
            return found;
        }

        /** Finds the greedy copies of a form, unless they are known: searches ask for them again and again. */
        void findGreedy(Floor floor, int form, long scope) {
            if (floor != knownFloor || floor.version != knownVersion || scope != knownScope) {
                Arrays.fill(known, (byte) 0);
                knownFloor = floor;
                knownVersion = floor.version;
                knownScope = scope;
            }
            if (known[form] != 0) {
                return;
            }
            known[form] = 1;
            for (int d = 0; d < floor.size; d++) {
                slotOf[form * MOST_DANCERS + d] = NONE;
            }
            long left = scope;
            int copies = 4 * book.slots[form];
            for (int i = 0; i < floor.size; i++) {
                int dancer = floor.order[i];
                long found = 0;
                int copy = 0;
                while (copy < copies && found == 0 && (left >>> dancer & 1) != 0) {
                    found = membersOf(floor, form, copy, dancer, left);
                    copy++;
                }
                left &= ~found;
                for (int slot = 0; slot < book.slots[form] && found != 0; slot++) {
                    int who = whoIsIn(floor, form, copy - 1, dancer, slot);
                    if (who >= 0) {
                        slotOf[form * MOST_DANCERS + who] = (byte) slot;
                    }
                }
            }
        }

        /** Who is at a slot's place of a copy for a dancer. */
        int whoIsIn(Floor floor, int form, int copy, int dancer, int slot) {
            int base = form * MOST_SLOTS * 4;
            int own = base + 4 * slot + (copy & 3);
            return floor.whoIsAt(floor.x[dancer] - book.slotX[base + copy] + book.slotX[own],
                floor.y[dancer] - book.slotY[base + copy] + book.slotY[own]);
        }

        /** Those in one slot of the greedy copies that were found; in any one, if it is NONE. */
        long inGreedy(Floor floor, int form, int slot) {
            long some = 0;
            for (int d = 0; d < floor.size; d++) {
                int own = slotOf[form * MOST_DANCERS + d];
                if (own >= 0 && (slot < 0 || slot == own)) {
                    some |= 1L << d;
                }
            }
            return some;
        }

        /** Parts dancers by a form: 0, or why it can't be done. */
        int part(Floor floor, int form, long dancers) {
            int slots = book.slots[form];
            parted = 0;
            if (slots == 0 || Long.bitCount(dancers) % slots != 0) {
                return UNPARTED;
            }
            long left = dancers;
            int tried = 0;
            firsts[0] = floor.firstOf(left, 0);
            chosen[0] = NONE;
            // a turn tries a copy or takes one back, and no more are taken back than were tried
            for (int turn = 0; turn <= 3 * MOST_TRIED && left != 0; turn++) {
                chosen[parted]++;
                if (chosen[parted] >= 4 * slots) {
                    if (parted == 0) {
                        return UNPARTED;
                    }
                    parted--;
                    left |= members[parted];
                    continue;
                }
                tried++;
                if (tried > MOST_TRIED) {
                    return TOO_HARD;
                }
                long found = membersOf(floor, form, chosen[parted], floor.order[firsts[parted]], left);
                if (found != 0) {
                    members[parted] = found;
                    left &= ~found;
                    firsts[parted + 1] = floor.firstOf(left, firsts[parted]);
                    chosen[parted + 1] = NONE;
                    parted++;
                }
            }
            return left == 0 ? 0 : TOO_HARD;
        }
    }

    /** Finds out whom code means, and what a step would do. */
    private static final class Caller {
        private static final long LARKS = 0x5555555555555555L;
        private static final long HEADS = 0x3333333333333333L;
        /** At most two values wait in each of the 30 that can be in one another. */
        private static final int MOST_VALUES = 96;
        /** Wider than the dancers can be apart ahead of being squared. */
        private static final int WIDTH = 512;

        private final Book book;
        private final Copies copies;
        private final long[] values = new long[MOST_VALUES];
        private final long[] who = new long[MOST_CALLS];
        private final int[] figures = new int[MOST_CALLS];
        private final int[] x = new int[MOST_DANCERS];
        private final int[] y = new int[MOST_DANCERS];
        private final int[] turns = new int[MOST_DANCERS];
        /** Where all are behind the step. */
        final int[] codes = new int[MOST_DANCERS];
        private final int[] ranks = new int[WIDTH];
        /** Who came to a spot, plus a stamp of the step, so that it need not be cleared. */
        private final int[] landed = new int[SPOTS];
        private int stamp;
        int behind;
        int beats;
        int why;
        int whom;
        int other;

        Caller(Book book) {
            this.book = book;
            copies = new Copies(book);
        }

        /** What the code that was looked at last has come to. */
        long value() {
            return values[0];
        }

        /** Goes through code as long as it comes to values; answers the place behind. */
        int evaluate(int from, Floor floor, long scope) {
            int top = -1;
            int place = from;
            for (; place < book.length && book.kindAt(place) <= Book.DENY; place++) {
                int kind = book.kindAt(place);
                int value = book.valueAt(place);
                int here = Math.max(top, 0);
                switch (kind) {
                    case Book.AND:
                    case Book.OR:
                        top = Math.max(top - 1, 0);
                        values[top] = joined(kind, values[top], values[top + 1]);
                        break;
                    case Book.NOT:
                        values[here] = scope & ~values[here];
                        break;
                    case Book.DENY:
                        values[here] = 1 - values[here];
                        break;
                    case Book.COUNT:
                        values[here] = Long.bitCount(values[here]) == value ? 1 : 0;
                        break;
                    case Book.FORMS:
                        values[here] = copies.part(floor, value, values[here]) == 0 ? 1 : 0;
                        break;
                    case Book.IN:
                        top = Math.min(top + 1, MOST_VALUES - 1);
                        copies.findGreedy(floor, value, scope);
                        values[top] = copies.inGreedy(floor, value, NONE);
                        break;
                    case Book.AT:
                        top = Math.min(top + 1, MOST_VALUES - 1);
                        copies.findGreedy(floor, value / MOST_SLOTS, scope);
                        values[top] = copies.inGreedy(floor, value / MOST_SLOTS, value % MOST_SLOTS);
                        break;
                    case Book.HOME:
                        top = Math.min(top + 1, MOST_VALUES - 1);
                        values[top] = floor.isAt(floor.home) ? 1 : 0;
                        break;
                    default:
                        top = Math.min(top + 1, MOST_VALUES - 1);
                        values[top] = scope & plainly(kind, value, floor);
                        break;
                }
            }
            return place;
        }

        private static long joined(int kind, long a, long b) {
            return kind == Book.AND ? a & b : a | b;
        }

        /** Those whom a word means that asks for no form. */
        private static long plainly(int kind, int value, Floor floor) {
            switch (kind) {
                case Book.LARKS:
                    return LARKS;
                case Book.ROBINS:
                    return ~LARKS;
                case Book.HEADS:
                    return HEADS;
                case Book.SIDES:
                    return ~HEADS;
                case Book.COUPLE:
                    return 3L << 2 * value;
                case Book.DANCER:
                    return 1L << value;
                case Book.FACING:
                    return floor.facers[value & 3];
                default:
                    return -1L;
            }
        }

        /** What the step whose code begins at a place would fail for, 0 if it can be danced; nobody moves yet. */
        int attempt(int from, Floor floor, long scope) {
            int place = from;
            int calls = 0;
            while (calls < MOST_CALLS && place < book.length && book.kindAt(place) <= Book.DENY) {
                place = evaluate(place, floor, scope);
                who[calls] = values[0];
                figures[calls] = book.valueAt(place);
                calls++;
                place++;
            }
            behind = place + 1;
            stayAll(floor);
            beats = 0;
            long earlier = 0;
            for (int i = 0; i < calls; i++) {
                if (!move(floor, figures[i], who[i], earlier)) {
                    return why;
                }
                earlier |= who[i];
                beats = Math.max(beats, book.figureCounts[figures[i]]);
            }
            return land(floor.size);
        }

        /** All go where the latest attempt led them. */
        void settle(Floor floor) {
            for (int d = 0; d < floor.size; d++) {
                floor.turned[d] += turns[d];
            }
            floor.place(codes, floor.size);
        }

        private void stayAll(Floor floor) {
            for (int d = 0; d < floor.size; d++) {
                x[d] = floor.x[d];
                y[d] = floor.y[d];
                codes[d] = floor.facing[d];
                turns[d] = 0;
            }
        }

        private boolean blame(int reason, int one, int another) {
            why = reason;
            whom = one;
            other = another;
            return reason == 0;
        }

        private boolean move(Floor floor, int figure, long some, long earlier) {
            if (some == 0) {
                return blame(1, NONE, NONE);
            }
            if ((some & earlier) != 0) {
                return blame(2, leastOf(some & earlier, floor.size), NONE);
            }
            int form = book.figureForm[figure];
            int unparted = copies.part(floor, form, some);
            if (unparted != 0) {
                return blame(unparted, floor.firstDancerOf(some), NONE);
            }
            for (int i = 0; i < copies.parted; i++) {
                moveCopy(floor, figure, copies.copyAt(i), floor.order[copies.firstAt(i)]);
            }
            return true;
        }

        private static int leastOf(long some, int size) {
            for (int d = 0; d < size; d++) {
                if ((some >>> d & 1) != 0) {
                    return d;
                }
            }
            return NONE;
        }

        private void moveCopy(Floor floor, int figure, int copy, int dancer) {
            int form = book.figureForm[figure];
            int turn = copy & 3;
            int anchor = form * MOST_SLOTS * 4 + copy;
            int left = floor.x[dancer] - book.slotX[anchor];
            int low = floor.y[dancer] - book.slotY[anchor];
            for (int slot = 0; slot < book.slots[form]; slot++) {
                int mover = copies.whoIsIn(floor, form, copy, dancer, slot);
                int goal = figure * MOST_SLOTS + slot;
                if (mover >= 0) {
                    x[mover] = left + Book.turnedX(book.toX[goal], book.toY[goal], turn);
                    y[mover] = low + Book.turnedY(book.toX[goal], book.toY[goal], turn);
                    turns[mover] = book.toTurn[goal];
                }
            }
        }

        /** Squares the floor and looks whether two are at one place: that stays so when it is squared. */
        private int land(int size) {
            square(x, size);
            square(y, size);
            blame(0, NONE, NONE);
            stamp += MOST_DANCERS;
            for (int d = 0; d < size; d++) {
                codes[d] = Floor.codeOf(x[d], y[d], codes[d] + turns[d] & 3);
                int spot = codes[d] >> 2 & SPOTS - 1;
                int there = landed[spot] - stamp;
                if (there < 0) {
                    landed[spot] = stamp + d;
                } else if (why == 0 || there < whom) {
                    blame(5, there, d);
                }
            }
            return why;
        }

        private void square(int[] places, int size) {
            int least = places[0];
            int most = places[0];
            for (int d = 1; d < size; d++) {
                least = Math.min(least, places[d]);
                most = Math.max(most, places[d]);
            }
            int width = Math.min(most - least + 1, WIDTH);
            for (int i = 0; i < width; i++) {
                ranks[i] = 0;
            }
            for (int d = 0; d < size; d++) {
                ranks[places[d] - least & WIDTH - 1] = 1;
            }
            int next = 0;
            for (int i = 0; i < width; i++) {
                if (ranks[i] != 0) {
                    ranks[i] = next;
                    next += 4;
                }
            }
            for (int d = 0; d < size; d++) {
                places[d] = ranks[places[d] - least & WIDTH - 1];
            }
        }
    }

    /** The way through a part: where it is, the scope, and what it comes back to. */
    private static final class Run {
        static final int ENDED = 0;
        static final int DANCED = 1;
        static final int FAILED = 2;
        static final int IDLE = 3;
        static final int OVER = 4;
        private static final int MOST_ACTS = 2000;
        private static final int MOST_ACTS_IN_ALL = 20000;
        private static final int MOST_STEPS_IN_ALL = 2000;
        /** Each that is open has a { of its own, and takes four tokens at least. */
        private static final int MOST_OPEN = MOST_TOKENS / 4;

        private final Book book;
        private final Caller caller;
        boolean live;
        int place;
        long scope;
        /** Scopes, places to return to, and how many times are left. */
        final long[] open = new long[MOST_OPEN];
        int depth;
        private int acts;
        private boolean limited;
        private int actsInAll;
        private int stepsInAll;

        Run(Book book, Caller caller) {
            this.book = book;
            this.caller = caller;
        }

        /** From now on all runs have so many acts and steps together. */
        void limit() {
            limited = true;
            actsInAll = 0;
            stepsInAll = 0;
        }

        void start(int part, long everybody) {
            live = true;
            place = book.partStart[part];
            scope = everybody;
            depth = 0;
        }

        /** Goes on to the next step and dances it, or tells why there is none. */
        int goOn(Floor floor) {
            acts = 0;
            for (int i = 0; i < MANY; i++) {
                int kind = book.kindAt(place);
                int value = book.valueAt(place);
                if (kind <= Book.DENY) {
                    return dance(floor);
                }
                if (kind == Book.RETURN && depth == 0) {
                    return ENDED;
                }
                int stop = count(actsOf(kind, value));
                if (stop != DANCED) {
                    return stop;
                }
                if (kind == Book.LOOK) {
                    place = caller.evaluate(place + 1, floor, scope);
                } else {
                    obey(kind, value);
                }
            }
            return IDLE;
        }

        private int dance(Floor floor) {
            stepsInAll++;
            if (limited && stepsInAll > MOST_STEPS_IN_ALL) {
                return OVER;
            }
            if (caller.attempt(place, floor, scope) != 0) {
                return FAILED;
            }
            place = caller.behind;
            caller.settle(floor);
            return DANCED;
        }

        private int actsOf(int kind, int value) {
            switch (kind) {
                case Book.LOOK:
                    return value;
                case Book.DO:
                    return 1;
                case Book.TIME:
                    return top() > 0 ? 1 : 0;
                default:
                    return 0;
            }
        }

        /** Counts acts; DANCED if there are not too many, and the way may be gone on. */
        private int count(int more) {
            acts += more;
            actsInAll += more;
            if (acts > MOST_ACTS) {
                return IDLE;
            }
            return limited && actsInAll > MOST_ACTS_IN_ALL ? OVER : DANCED;
        }

        private void obey(int kind, int value) {
            switch (kind) {
                case Book.DO:
                    push(place + 1);
                    place = book.partStart[value];
                    break;
                case Book.REPEAT:
                    push(value);
                    place++;
                    break;
                case Book.TIME:
                case Book.MOST:
                    push(pop() - 1);
                    leaveIf(top() < 0, value);
                    break;
                case Book.LEAVE:
                    leaveIf(caller.value() != 0, value);
                    break;
                case Book.UNLESS:
                    place = caller.value() != 0 ? place + 1 : value;
                    break;
                case Book.JUMP:
                    place = value;
                    break;
                case Book.FOR:
                    push(scope);
                    scope = caller.value();
                    place++;
                    break;
                case Book.FOR_END:
                    scope = pop();
                    place++;
                    break;
                default:
                    place = (int) pop();
                    break;
            }
        }

        private void leaveIf(boolean over, int behind) {
            if (over) {
                pop();
            }
            place = over ? behind : place + 1;
        }

        private long top() {
            return depth > 0 ? open[depth - 1] : 0;
        }

        private void push(long value) {
            if (depth < MOST_OPEN) {
                open[depth] = value;
                depth++;
            }
        }

        private long pop() {
            long value = top();
            if (depth > 0) {
                depth--;
            }
            return value;
        }
    }

    /** What was ahead of a step. */
    private static final class Moment {
        /** The code of each, and above it how much it has turned. */
        private final int[] dancers = new int[MOST_DANCERS];
        private boolean live;
        private int place;
        private long scope;
        private long[] open = new long[4];
        private int depth;
        int beats;
        int steps;

        void note(Floor floor, Run run) {
            for (int d = 0; d < floor.size; d++) {
                dancers[d] = floor.turned[d] << Floor.CODE_BITS | floor.codeAt(d);
            }
            live = run.live;
            place = run.place;
            scope = run.scope;
            depth = run.live ? run.depth : 0;
            if (open.length < depth) {
                open = new long[depth];
            }
            System.arraycopy(run.open, 0, open, 0, depth);
        }

        void restore(Floor floor, Run run) {
            for (int d = 0; d < floor.size; d++) {
                floor.turned[d] = dancers[d] >> Floor.CODE_BITS;
            }
            floor.place(dancers, floor.size);
            run.live = live;
            run.place = place;
            run.scope = scope;
            run.depth = depth;
            System.arraycopy(open, 0, run.open, 0, depth);
        }
    }

    /** The latest moments, in a ring that has one more than it keeps: that one is written ahead of a step. */
    private static final class History {
        private static final int MOST = 200;

        private final Moment[] moments = new Moment[MOST + 1];
        private int spare;
        int size;

        void clear() {
            size = 0;
        }

        void note(Floor floor, Run run, int beats, int steps) {
            if (moments[spare] == null) {
                moments[spare] = new Moment();
            }
            Moment moment = moments[spare];
            moment.note(floor, run);
            moment.beats = beats;
            moment.steps = steps;
        }

        /** The moment that was noted last belongs to a step that was danced. */
        void keep() {
            spare = (spare + 1) % (MOST + 1);
            size = Math.min(size + 1, MOST);
        }

        Moment latest(int n) {
            return n >= 0 && n <= size ? moments[(spare - n + MOST + 1) % (MOST + 1)] : null;
        }

        void drop(int n) {
            if (n >= 0 && n <= size) {
                spare = (spare - n + MOST + 1) % (MOST + 1);
                size -= n;
            }
        }
    }

    /** Searches for rows of allowed steps, and the rows that were found. */
    private static final class Search {
        static final int MOST_DEPTH = 12;
        static final int MOST_SEARCHED = 16;
        private static final int MOST_STATES = 2000;
        private static final int MOST_SEEN = 10000;
        /** The states' table has 2 to the 12 places, so that half of them stay free. */
        private static final int TABLE_BITS = 12;
        private static final int SPREAD = 1 << TABLE_BITS;
        /** Ten bits tell a dancer where there are at most 16; six of them to a number. */
        private static final int DANCER_BITS = 10;
        private static final int TO_A_NUMBER = 6;

        private final Book book;
        private final Caller caller;
        private final Floor floor;
        private final long[] states = new long[3 * MOST_STATES];
        private final short[] table = new short[SPREAD];
        /** Which state each allowed step leads to from each one. */
        private final short[] leads = new short[MOST_ALLOWS * MOST_STATES];
        /** The first state of each level. */
        private final int[] levels = new int[MOST_DEPTH + 3];
        /** How many rows lead on from a state to the aim, and the least price of one. */
        private final long[] ways = new long[MOST_STATES];
        private final int[] prices = new int[MOST_STATES];
        private final long[] key = new long[3];
        private final int[] codes = new int[MOST_SEARCHED];
        private int size;
        private int width;
        int seen;
        /** How many steps the rows have that were found; NONE if there are none. */
        private int length = NONE;
        private final int[] chosen = new int[MOST_DEPTH];
        private boolean isChosen;
        int nextStep;

        Search(Book book, Caller caller, Floor floor) {
            this.book = book;
            this.caller = caller;
            this.floor = floor;
        }

        void forget() {
            length = NONE;
            isChosen = false;
            nextStep = 0;
        }

        int explore(int depth, Floor present, int[] aim) {
            forget();
            Arrays.fill(table, (short) 0);
            size = 0;
            width = book.allows;
            levels[0] = 0;
            present.copyCodes(codes);
            pack(codes, present.size);
            if (meet() < 0) {
                return OPEN;
            }
            levels[1] = size;
            for (int level = 0; level <= depth && level <= MOST_DEPTH; level++) {
                pack(aim, present.size);
                int goal = table[placeOfKey()] - 1;
                if (goal >= 0) {
                    findRows(level, goal);
                    return level;
                }
                if (level == depth || levels[level] == size) {
                    return NONE;
                }
                if (!widen(level, present.size)) {
                    return OPEN;
                }
            }
            return NONE;
        }

        /** Meets the whole next level; false if there would be too many states. */
        private boolean widen(int level, int dancers) {
            for (int state = levels[level]; state < levels[level + 1]; state++) {
                unpack(state, dancers);
                floor.place(codes, dancers);
                for (int i = 0; i < width; i++) {
                    int to = NONE;
                    if (caller.attempt(book.allowStart[i], floor, floor.everybody()) == 0) {
                        pack(caller.codes, dancers);
                        to = meet();
                        if (to < 0) {
                            return false;
                        }
                    }
                    leads[state * MOST_ALLOWS + i] = (short) to;
                }
            }
            levels[level + 2] = size;
            return true;
        }

        private void pack(int[] from, int dancers) {
            Arrays.fill(key, 0L);
            for (int d = 0; d < dancers && d < MOST_SEARCHED && d < from.length; d++) {
                // X / 4 and Y / 4 are below 16 here
                long bits = from[d] & 63 | from[d] >> 2 & 15 << 6;
                key[d / TO_A_NUMBER] |= bits << DANCER_BITS * (d % TO_A_NUMBER);
            }
        }

        private void unpack(int state, int dancers) {
            for (int d = 0; d < dancers && d < MOST_SEARCHED; d++) {
                long number = states[3 * state + d / TO_A_NUMBER];
                int bits = (int) (number >>> DANCER_BITS * (d % TO_A_NUMBER)) & (1 << DANCER_BITS) - 1;
                codes[d] = bits & 63 | (bits & 15 << 6) << 2;
            }
        }

        /** Where the state of the key stands in the table, or would come to stand. */
        private int placeOfKey() {
            long mixed = (key[0] * 31 + key[1]) * 31 + key[2];
            mixed ^= mixed >>> 29;
            int place = (int) (mixed * 0x9E3779B97F4A7C15L >>> 64 - TABLE_BITS);
            for (int i = 0; i < SPREAD && table[place] != 0; i++) {
                int state = table[place] - 1;
                if (states[3 * state] == key[0] && states[3 * state + 1] == key[1]
                        && states[3 * state + 2] == key[2]) {
                    return place;
                }
                place = place + 1 & SPREAD - 1;
            }
            return place;
        }

        /** The state of the key, which is new or was met before; NONE if it would be one too many. */
        private int meet() {
            int place = placeOfKey();
            if (table[place] != 0) {
                return table[place] - 1;
            }
            if (size >= MOST_STATES || seen >= MOST_SEEN) {
                return NONE;
            }
            System.arraycopy(key, 0, states, 3 * size, 3);
            size++;
            seen++;
            table[place] = (short) size;
            return size - 1;
        }

        /** Counts the rows from behind; a least row goes one level on with each step. */
        private void findRows(int level, int goal) {
            length = level;
            Arrays.fill(ways, 0L);
            ways[goal] = 1;
            prices[goal] = 0;
            for (int l = level - 1; l >= 0; l--) {
                for (int state = levels[l]; state < levels[l + 1]; state++) {
                    countWays(state, l);
                }
            }
        }

        private void countWays(int state, int level) {
            for (int i = 0; i < width; i++) {
                int to = onward(state, i, level);
                if (to >= 0) {
                    int price = book.allowPrice[i] + prices[to];
                    prices[state] = ways[state] == 0 ? price : Math.min(prices[state], price);
                    ways[state] += ways[to];
                }
            }
        }

        /** Where a step leads from a state of a level, if that can be on a least row to the aim; else NONE. */
        private int onward(int state, int i, int level) {
            int to = leads[state * MOST_ALLOWS + i];
            boolean good = to >= levels[level + 1] && to < levels[level + 2] && ways[to] > 0;
            return good ? to : NONE;
        }

        long countRows() {
            return length < 0 ? 0 : ways[0];
        }

        boolean choose(long number) {
            if (number < 0 || number >= countRows()) {
                return false;
            }
            long left = number;
            int state = 0;
            for (int level = 0; level < length; level++) {
                for (int i = 0; i < width; i++) {
                    int to = onward(state, i, level);
                    if (to >= 0 && left < ways[to]) {
                        chosen[level] = i;
                        state = to;
                        break;
                    }
                    left -= to >= 0 ? ways[to] : 0;
                }
            }
            isChosen = true;
            nextStep = 0;
            return true;
        }

        int chooseCheapest() {
            if (length < 0) {
                return NONE;
            }
            int state = 0;
            for (int level = 0; level < length; level++) {
                for (int i = 0; i < width; i++) {
                    int to = onward(state, i, level);
                    if (to >= 0 && book.allowPrice[i] + prices[to] == prices[state]) {
                        chosen[level] = i;
                        state = to;
                        break;
                    }
                }
            }
            isChosen = true;
            nextStep = 0;
            return prices[0];
        }

        int chosenStep(int i) {
            return isChosen && i >= 0 && i < length ? chosen[i] : NONE;
        }
    }
}
