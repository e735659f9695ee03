/**
 * Bark paper makers of a mountain: bark is soaked, beaten to pulp, made into sheets, and cut into
 * spirits that tourists buy. Which orders the makers follow is told by a list in a small language.
 *
 * Every array is made by a constructor and used again, and every array is reached through a class
 * that looks at the index first (Table, Tape, Names), so that no call makes or breaks anything.
 */
public final class BarkMakers {

    private static final int MOST_BARKS = 5;
    private static final int MOST_BEATERS = 6;
    private static final int MOST_SPIRITS = 6;
    private static final int MOST_ORDERS = 24;
    private static final int MOST_TOKENS = 400;
    private static final int MOST_SHEETS = 30;
    private static final int MOST_FIGURES = 30;
    private static final int MOST_RAW = 500;
    private static final int MOST_WEATHER = 5;
    private static final int MOST_EVERY = 6;
    private static final int NOBODY = -1;
    private static final int NOWHERE = -1;

    private final Tape tape;
    private final Tokens tokens;
    private final Checker checker;
    private final Parser parser;
    private final Lore draft;
    private final Lore lore;
    private final Mountain now;
    private final Mountain thought;
    private final Course course;
    private final Course thoughtCourse;
    private int errorPlace;

    public BarkMakers() {
        tape = new Tape();
        tokens = new Tokens(tape);
        checker = new Checker(tokens);
        draft = new Lore();
        parser = new Parser(tokens, draft);
        lore = new Lore();
        now = new Mountain();
        thought = new Mountain();
        course = new Course(lore, now);
        thoughtCourse = new Course(lore, thought);
        errorPlace = -1;
    }

    // ---- the language

    public int feed(int a, int b, int c, int d, int e) throws IllegalStateException {
        if (tape.length() + 20 > Tape.ROOM) {
            throw new IllegalStateException("the tape would be longer than 2000 bytes");
        }
        tape.append(a);
        tape.append(b);
        tape.append(c);
        tape.append(d);
        tape.append(e);
        return tape.length();
    }

    public int trim(int n) throws IllegalArgumentException {
        if (n < 0 || n > tape.length()) {
            throw new IllegalArgumentException("n is not 0 to the number of bytes of the tape");
        }
        tape.shorten(n);
        return n;
    }

    public int teach() {
        tokens.scan();
        checker.check();
        boolean isList = parser.readList();
        int error = isList ? checker.error() : 1;
        errorPlace = -1;
        if (error != 0) {
            errorPlace = tokens.start(isList ? checker.errorToken() : parser.token());
        } else {
            lore.copy(draft);
            now.begin(lore);
        }
        tape.shorten(0);
        return error;
    }

    public int errorAt() {
        return errorPlace;
    }

    public int count(int what) throws IndexOutOfBoundsException {
        switch (what) {
            case 0: return now.hour;
            case 1: return now.weather;
            case 2: return now.tourists;
            case 3: return lore.barks.size();
            case 4: return lore.beaters.size();
            case 5: return lore.spirits.size();
            case 6: return lore.orders.size();
            case 7: return now.sheets.size();
            case 8: return now.sheets.countOf(Mountain.WET, 0);
            case 9: return now.figures.size();
            case 10: return now.coins;
            case 11: return now.made;
            case 12: return now.cut;
            case 13: return now.sold;
            case 14: return tape.length();
            default: throw new IndexOutOfBoundsException("what is not 0 to 14");
        }
    }

    // ---- what there is

    public int bark(int bark, int what) throws IndexOutOfBoundsException {
        if (!lore.barks.has(bark)) {
            throw new IndexOutOfBoundsException("there is no such bark");
        }
        switch (what) {
            case 0: return now.barks.get(bark, Mountain.RAW);
            case 1: return now.barks.get(bark, Mountain.SOAKED);
            case 2: return now.barks.get(bark, Mountain.PULP);
            case 3: return lore.barks.get(bark, Lore.FIBRE);
            case 4: return now.sheets.countOf(Mountain.BARK, bark);
            default: throw new IndexOutOfBoundsException("what is not 0 to 4");
        }
    }

    public int beater(int beater, int what) throws IndexOutOfBoundsException {
        if (!lore.beaters.has(beater)) {
            throw new IndexOutOfBoundsException("there is no such beater");
        }
        switch (what) {
            case 0: return lore.beaters.get(beater, Lore.HAND);
            case 1: return now.beaters.get(beater, Mountain.EVERY);
            case 2: return course.hoursToBeat(beater);
            case 3: return course.boardOf(beater);
            default: throw new IndexOutOfBoundsException("what is not 0 to 3");
        }
    }

    public int spirit(int spirit, int what) throws IndexOutOfBoundsException {
        if (!lore.spirits.has(spirit)) {
            throw new IndexOutOfBoundsException("there is no such spirit");
        }
        switch (what) {
            case 0: return lore.spirits.get(spirit, Lore.FOLDS);
            case 1: return lore.spirits.get(spirit, Lore.CUTS);
            case 2: return lore.spirits.get(spirit, Lore.PRICE);
            case 3: return now.figures.countOf(Mountain.SPIRIT, spirit);
            case 4: return now.spirits.get(spirit, Mountain.SOLD);
            default: throw new IndexOutOfBoundsException("what is not 0 to 4");
        }
    }

    public int sheet(int sheet, int what) throws IndexOutOfBoundsException {
        if (!now.sheets.has(sheet)) {
            throw new IndexOutOfBoundsException("there is no such sheet");
        }
        switch (what) {
            case 0: return now.sheets.get(sheet, Mountain.BARK);
            case 1: return now.sheets.get(sheet, Mountain.THICK);
            case 2: return now.sheets.get(sheet, Mountain.WET);
            case 3: return now.sheets.get(sheet, Mountain.MOULD);
            default: throw new IndexOutOfBoundsException("what is not 0 to 3");
        }
    }

    public int figure(int figure, int what) throws IndexOutOfBoundsException {
        if (!now.figures.has(figure)) {
            throw new IndexOutOfBoundsException("there is no such figure");
        }
        switch (what) {
            case 0: return now.figures.get(figure, Mountain.SPIRIT);
            case 1: return now.figures.get(figure, Mountain.BEAUTY);
            case 2: return course.paidFor(figure);
            default: throw new IndexOutOfBoundsException("what is not 0 to 2");
        }
    }

    public int force(int bark) throws IndexOutOfBoundsException {
        if (!lore.barks.has(bark)) {
            throw new IndexOutOfBoundsException("there is no such bark");
        }
        course.chooseBoards();
        return course.forceAt(bark);
    }

    // ---- by hand

    public int setWeather(int weather) throws IllegalArgumentException {
        if (weather < 0 || weather > MOST_WEATHER) {
            throw new IllegalArgumentException("weather is not 0 to 5");
        }
        int before = now.weather;
        now.weather = weather;
        return before;
    }

    public int setTourists(int tourists) throws IllegalArgumentException {
        if (tourists < 0 || tourists > 20) {
            throw new IllegalArgumentException("tourists is not 0 to 20");
        }
        int before = now.tourists;
        now.tourists = tourists;
        return before;
    }

    public int tune(int beater, int every) throws IndexOutOfBoundsException, IllegalArgumentException {
        if (!lore.beaters.has(beater)) {
            throw new IndexOutOfBoundsException("there is no such beater");
        }
        if (every < 1 || every > MOST_EVERY) {
            throw new IllegalArgumentException("every is not 1 to 6");
        }
        int before = now.beaters.get(beater, Mountain.EVERY);
        now.beaters.set(beater, Mountain.EVERY, every);
        return before;
    }

    public int burn(int sheet) throws IndexOutOfBoundsException {
        if (!now.sheets.has(sheet)) {
            throw new IndexOutOfBoundsException("there is no such sheet");
        }
        int mouldy = now.sheets.get(sheet, Mountain.MOULD);
        now.sheets.remove(sheet);
        return mouldy;
    }

    public int bring(int bark, int many) throws IndexOutOfBoundsException, IllegalArgumentException {
        if (!lore.barks.has(bark)) {
            throw new IndexOutOfBoundsException("there is no such bark");
        }
        if (many < 1 || many > MOST_RAW) {
            throw new IllegalArgumentException("many is not 1 to 500");
        }
        int raw = Math.min(MOST_RAW, now.barks.get(bark, Mountain.RAW) + many);
        now.barks.set(bark, Mountain.RAW, raw);
        return raw;
    }

    // ---- hours

    public int pass(int hours) throws IllegalArgumentException {
        if (hours < 1 || hours > 96) {
            throw new IllegalArgumentException("hours is not 1 to 96");
        }
        int before = now.coins;
        course.go(hours);
        return now.coins - before;
    }

    // ---- what would be

    public int until(int spirit) throws IndexOutOfBoundsException {
        if (!lore.spirits.has(spirit)) {
            throw new IndexOutOfBoundsException("there is no such spirit");
        }
        thought.copy(now);
        for (int hours = 0; hours <= 120; hours++) {
            if (thought.figures.countOf(Mountain.SPIRIT, spirit) > 0) {
                return hours;
            }
            thoughtCourse.go(1);
        }
        return -1;
    }

    public int foresee(int hours, int what) throws IllegalArgumentException, IndexOutOfBoundsException {
        if (hours < 1 || hours > 96) {
            throw new IllegalArgumentException("hours is not 1 to 96");
        }
        if (what < 0 || what > 4) {
            throw new IndexOutOfBoundsException("what is not 0 to 4");
        }
        thought.copy(now);
        thoughtCourse.go(hours);
        switch (what) {
            case 0: return thought.coins - now.coins;
            case 1: return thought.sheets.size();
            case 2: return thought.figures.size();
            case 3: return thought.made - now.made;
            default: return thought.mouldySheets();
        }
    }

    public int advise(int beater) throws IndexOutOfBoundsException {
        if (!lore.beaters.has(beater)) {
            throw new IndexOutOfBoundsException("there is no such beater");
        }
        int most = -1;
        int advised = 1;
        for (int every = 1; every <= MOST_EVERY; every++) {
            thought.copy(now);
            thought.beaters.set(beater, Mountain.EVERY, every);
            thoughtCourse.go(48);
            if (thought.made >= most) {
                most = thought.made;
                advised = every;
            }
        }
        return advised;
    }

    public int best(int hours) throws IllegalArgumentException {
        if (hours < 1 || hours > 72) {
            throw new IllegalArgumentException("hours is not 1 to 72");
        }
        int most = -1;
        int found = 0;
        for (int weather = 0; weather <= MOST_WEATHER; weather++) {
            thought.copy(now);
            thought.weather = weather;
            thoughtCourse.go(hours);
            if (thought.coins > most) {
                most = thought.coins;
                found = weather;
            }
        }
        return found;
    }

    public int spare(int hours) throws IllegalArgumentException {
        if (hours < 1 || hours > 72) {
            throw new IllegalArgumentException("hours is not 1 to 72");
        }
        int most = -1;
        int spared = NOBODY;
        // The first round is with all: what is made then is the mark that each one's absence has to reach.
        for (int beater = NOBODY; beater < lore.beaters.size(); beater++) {
            thought.copy(now);
            thought.absent = beater;
            thoughtCourse.go(hours);
            if (thought.made > most || (thought.made == most && spared == NOBODY)) {
                most = thought.made;
                spared = beater;
            }
        }
        return spared;
    }

    public double mean() {
        int figures = now.figures.size();
        if (figures == 0) {
            return 0;
        }
        int beauty = 0;
        for (int figure = 0; figure < figures; figure++) {
            beauty += now.figures.get(figure, Mountain.BEAUTY);
        }
        return (double) beauty / figures;
    }

    public long digest() {
        long d = 821;
        for (int what = 0; what <= 14; what++) {
            d = d * 31 + count(what);
        }
        for (int bark = 0; bark < lore.barks.size(); bark++) {
            for (int what = 0; what <= 4; what++) {
                d = d * 31 + bark(bark, what);
            }
            d = d * 31 + force(bark);
        }
        for (int beater = 0; beater < lore.beaters.size(); beater++) {
            for (int what = 0; what <= 3; what++) {
                d = d * 31 + beater(beater, what);
            }
        }
        for (int spirit = 0; spirit < lore.spirits.size(); spirit++) {
            for (int what = 0; what <= 4; what++) {
                d = d * 31 + spirit(spirit, what);
            }
        }
        for (int sheet = 0; sheet < now.sheets.size(); sheet++) {
            for (int what = 0; what <= 3; what++) {
                d = d * 31 + sheet(sheet, what);
            }
        }
        for (int figure = 0; figure < now.figures.size(); figure++) {
            for (int what = 0; what <= 2; what++) {
                d = d * 31 + figure(figure, what);
            }
        }
        return d;
    }

    /** Rows of numbers, numbered by their age. A cell that is not there reads as 0 and keeps nothing. */
    private static final class Table {
        private final int width;
        private final int room;
        private final int[] cells;
        private int size;

        Table(int width, int room) {
            this.width = Math.max(0, width);
            this.room = Math.max(0, room);
            cells = new int[Math.max(0, this.width * this.room)];
            size = 0;
        }

        int size() {
            return size;
        }

        boolean isFull() {
            return size >= room;
        }

        boolean has(int row) {
            return row >= 0 && row < size;
        }

        void clear() {
            size = 0;
        }

        /** Adds a row of zeros and tells its number; -1, and no row, if there is no room. */
        int add() {
            if (size >= room) {
                return -1;
            }
            int row = size;
            size++;
            for (int at = row * width; at >= 0 && at < size * width && at < cells.length; at++) {
                cells[at] = 0;
            }
            return row;
        }

        int get(int row, int column) {
            if (row < 0 || row >= size || column < 0 || column >= width) {
                return 0;
            }
            int at = row * width + column;
            return at >= 0 && at < cells.length ? cells[at] : 0;
        }

        void set(int row, int column, int number) {
            if (row < 0 || row >= size || column < 0 || column >= width) {
                return;
            }
            int at = row * width + column;
            if (at >= 0 && at < cells.length) {
                cells[at] = number;
            }
        }

        /** Takes a row out; those behind it move up. */
        void remove(int row) {
            if (row < 0 || row >= size) {
                return;
            }
            int end = Math.min(size * width, cells.length) - width;
            for (int at = row * width; at >= 0 && at < end; at++) {
                cells[at] = cells[at + width];
            }
            size--;
        }

        /** In how many rows a column has this number. */
        int countOf(int column, int number) {
            int found = 0;
            if (column >= 0 && column < width) {
                for (int row = 0; row < size; row++) {
                    int at = row * width + column;
                    if (at >= 0 && at < cells.length && cells[at] == number) {
                        found++;
                    }
                }
            }
            return found;
        }

        /** Becomes the same as a table of the same width and room. */
        void copy(Table other) {
            size = Math.min(other.size, room);
            int end = Math.min(size * width, Math.min(cells.length, other.cells.length));
            for (int at = 0; at < end; at++) {
                cells[at] = other.cells[at];
            }
        }
    }

    /** The bytes that feed and trim keep till they are read. */
    private static final class Tape {
        static final int ROOM = 2000;

        private final byte[] bytes;
        private int length;

        Tape() {
            bytes = new byte[ROOM];
            length = 0;
        }

        int length() {
            return length;
        }

        void shorten(int n) {
            if (n >= 0 && n < length) {
                length = n;
            }
        }

        void append(int number) {
            for (int shift = 24; shift >= 0; shift -= 8) {
                if (length >= 0 && length < bytes.length) {
                    bytes[length] = (byte) (number >>> shift);
                    length++;
                }
            }
        }

        /** The byte at a position, 0 to 255; -1 where there is none. */
        int at(int position) {
            if (position < 0 || position >= length || position >= bytes.length) {
                return -1;
            }
            return bytes[position] & 255;
        }
    }

    /**
     * What a token can be. The keywords stand in the order of Tokens.KEYWORDS, the signs in that of
     * Tokens.SIGNS. The code of sums and tests names its operations by the same numbers.
     */
    private static final class Kind {
        static final int BAD = 0;
        static final int BARK = 1;
        static final int RAW = 2;
        static final int FIBRE = 3;
        static final int BEATER = 4;
        static final int HAND = 5;
        static final int EVERY = 6;
        static final int SPIRIT = 7;
        static final int FOLDS = 8;
        static final int CUTS = 9;
        static final int PRICE = 10;
        static final int SOAK = 11;
        static final int BY = 12;
        static final int BEAT = 13;
        static final int ON = 14;
        static final int CUT = 15;
        static final int FROM = 16;
        static final int WHEN = 17;
        static final int HOUR = 18;
        static final int SOAKED = 19;
        static final int BOARD = 20;
        static final int SHEETS = 21;
        static final int FIGURES = 22;
        static final int COINS = 23;
        static final int WEATHER = 24;
        static final int NOT = 25;
        static final int AND = 26;
        static final int OR = 27;
        static final int MIN = 28;
        static final int MAX = 29;
        static final int NAME = 30;
        static final int NUMBER = 31;
        static final int OPEN = 32;
        static final int CLOSE = 33;
        static final int OPEN_TEST = 34;
        static final int CLOSE_TEST = 35;
        static final int SEMICOLON = 36;
        static final int COMMA = 37;
        static final int PLUS = 38;
        static final int MINUS = 39;
        static final int TIMES = 40;
        static final int OVER = 41;
        static final int LESS = 42;
        static final int MORE = 43;
        static final int EQUAL = 44;
        static final int AT_MOST = 45;
        static final int AT_LEAST = 46;
        static final int END = 47;
        /** No token, but what a - in front of a value does. */
        static final int TURN = 48;

        private Kind() {
        }
    }

    /** Words, each as one number, in the order in which they were told. */
    private static final class Names {
        private final long[] codes;
        private int size;

        Names(int room) {
            codes = new long[Math.max(0, room)];
            size = 0;
        }

        boolean isFull() {
            return size >= codes.length;
        }

        void clear() {
            size = 0;
        }

        void add(long code) {
            if (size >= 0 && size < codes.length) {
                codes[size] = code;
                size++;
            }
        }

        /** The number of a word; -1 if it was not told. */
        int find(long code) {
            for (int i = 0; i < size && i < codes.length; i++) {
                if (codes[i] == code) {
                    return i;
                }
            }
            return -1;
        }
    }

    /**
     * The tape as a row of tokens. The last one is the end of the tape or the first thing that can't be
     * a token, the 401st token included.
     */
    private static final class Tokens {
        private static final String KEYWORDS =
            "bark raw fibre beater hand every spirit folds cuts price soak by beat on cut from when hour soaked board sheets figures coins weather not and or min max ";
        private static final String SIGNS = "()[];,+-*/<>=";
        private static final int START = 0;
        private static final int VALUE = 1;
        private static final int LONGEST_WORD = 10;
        private static final int LONGEST_NUMBER = 6;

        private final Tape tape;
        private final Names keywords;
        private final Table rows;
        private final int[] kinds;
        private final long[] codes;
        private int position;

        Tokens(Tape tape) {
            this.tape = tape;
            rows = new Table(2, MOST_TOKENS + 1);
            kinds = new int[MOST_TOKENS + 1];
            codes = new long[MOST_TOKENS + 1];
            position = 0;
            keywords = new Names(Kind.MAX);
            long code = 0;
            for (int i = 0; i < KEYWORDS.length(); i++) {
                char sign = KEYWORDS.charAt(i);
                if (sign == ' ') {
                    keywords.add(code);
                    code = 0;
                } else {
                    code = extended(code, sign);
                }
            }
        }

        private static long extended(long code, int letterOrDigit) {
            int value = isDigit(letterOrDigit) ? letterOrDigit - '0' + 27 : letterOrDigit - 'a' + 1;
            return code * 37 + value;
        }

        private static boolean isDigit(int sign) {
            return sign >= '0' && sign <= '9';
        }

        private static boolean isLetter(int sign) {
            return sign >= 'a' && sign <= 'z';
        }

        int size() {
            return rows.size();
        }

        int kind(int token) {
            return token >= 0 && token < kinds.length ? kinds[token] : Kind.BAD;
        }

        int start(int token) {
            return rows.get(token, START);
        }

        /** What a number is, or, once the checker has seen it, which one a name means. */
        int value(int token) {
            return rows.get(token, VALUE);
        }

        void setValue(int token, int value) {
            rows.set(token, VALUE, value);
        }

        long code(int token) {
            return token >= 0 && token < codes.length ? codes[token] : 0;
        }

        void scan() {
            rows.clear();
            position = 0;
            boolean goesOn = true;
            for (int n = 0; n <= MOST_TOKENS && goesOn; n++) {
                skipBlanks();
                int token = rows.add();
                rows.set(token, START, position);
                int kind = readToken(token);
                if (token >= 0 && token < kinds.length) {
                    kinds[token] = kind;
                }
                goesOn = kind != Kind.END && kind != Kind.BAD;
            }
        }

        private void skipBlanks() {
            while (position < tape.length() && (tape.at(position) == ' ' || tape.at(position) == 10)) {
                position++;
            }
        }

        private int readToken(int token) {
            int sign = tape.at(position);
            if (sign < 0) {
                return Kind.END;
            }
            if (token >= MOST_TOKENS) {
                return Kind.BAD;
            }
            if (isLetter(sign)) {
                return readWord(token);
            }
            return isDigit(sign) ? readNumber(token) : readSign(sign);
        }

        private int readWord(int token) {
            long code = 0;
            int start = position;
            while (position < tape.length() && (isLetter(tape.at(position)) || isDigit(tape.at(position)))) {
                code = extended(code, tape.at(position));
                position++;
            }
            if (position - start > LONGEST_WORD) {
                return Kind.BAD;
            }
            if (token >= 0 && token < codes.length) {
                codes[token] = code;
            }
            int keyword = keywords.find(code);
            return keyword < 0 ? Kind.NAME : Kind.BARK + keyword;
        }

        private int readNumber(int token) {
            int number = 0;
            int start = position;
            while (position < tape.length() && isDigit(tape.at(position))) {
                number = number * 10 + tape.at(position) - '0';
                position++;
            }
            rows.set(token, VALUE, number);
            return position - start > LONGEST_NUMBER ? Kind.BAD : Kind.NUMBER;
        }

        private int readSign(int sign) {
            int which = SIGNS.indexOf((char) sign);
            if (which < 0) {
                return Kind.BAD;
            }
            position++;
            int kind = Kind.OPEN + which;
            if (tape.at(position) == '=' && (kind == Kind.LESS || kind == Kind.MORE)) {
                position++;
                return kind == Kind.LESS ? Kind.AT_MOST : Kind.AT_LEAST;
            }
            return kind;
        }
    }

    /**
     * Looks for errors 2 to 5, from left to right, and tells each name its number. The token ahead says
     * what a name or number has to be, so this asks for no grammar: without error 1 it is right.
     */
    private static final class Checker {
        private final Tokens tokens;
        private final Names barks;
        private final Names beaters;
        private final Names spirits;
        private int orders;
        private int error;
        private int errorToken;

        Checker(Tokens tokens) {
            this.tokens = tokens;
            barks = new Names(MOST_BARKS);
            beaters = new Names(MOST_BEATERS);
            spirits = new Names(MOST_SPIRITS);
            orders = 0;
            error = 0;
            errorToken = 0;
        }

        /** The first error, 2 to 5; 0 without any. */
        int error() {
            return error;
        }

        int errorToken() {
            return errorToken;
        }

        void check() {
            barks.clear();
            beaters.clear();
            spirits.clear();
            orders = 0;
            error = 0;
            for (int token = 0; token < tokens.size() && error == 0; token++) {
                error = errorOf(token);
                errorToken = token;
            }
        }

        private int errorOf(int token) {
            switch (tokens.kind(token)) {
                case Kind.NAME:
                    return errorOfName(token, tokens.kind(token - 1));
                case Kind.NUMBER:
                    return isInRange(tokens.value(token), tokens.kind(token - 1)) ? 0 : 5;
                case Kind.SOAK:
                case Kind.BEAT:
                case Kind.CUT:
                    orders++;
                    return orders > MOST_ORDERS ? 4 : 0;
                default:
                    return 0;
            }
        }

        private int errorOfName(int token, int behind) {
            switch (behind) {
                case Kind.BARK:
                    return errorOfNew(barks, token);
                case Kind.BEATER:
                    return errorOfNew(beaters, token);
                case Kind.SPIRIT:
                    return errorOfNew(spirits, token);
                case Kind.BEAT:
                    return errorOfTold(beaters, token);
                case Kind.CUT:
                case Kind.FIGURES:
                    return errorOfTold(spirits, token);
                default:
                    return errorOfTold(barks, token);
            }
        }

        private int errorOfNew(Names told, int token) {
            long code = tokens.code(token);
            if (told.find(code) >= 0) {
                return 2;
            }
            if (told.isFull()) {
                return 4;
            }
            told.add(code);
            return 0;
        }

        private int errorOfTold(Names told, int token) {
            int number = told.find(tokens.code(token));
            tokens.setValue(token, number);
            return number < 0 ? 3 : 0;
        }

        private static boolean isInRange(int number, int behind) {
            switch (behind) {
                case Kind.RAW: return number >= 0 && number <= MOST_RAW;
                case Kind.FIBRE: return number >= 1 && number <= 9;
                case Kind.HAND: return number >= 1 && number <= 9;
                case Kind.EVERY: return number >= 1 && number <= MOST_EVERY;
                case Kind.FOLDS: return number >= 0 && number <= 4;
                case Kind.CUTS: return number >= 1 && number <= 30;
                case Kind.PRICE: return number >= 1 && number <= 99;
                default: return true;
            }
        }
    }

    /**
     * Reads the checked tokens by the grammar and writes down what they tell. Each method tells whether
     * its part is right; where it is not, token() is the first token that does not fit.
     */
    private static final class Parser {
        private static final int DEEPEST = 8;

        private final Tokens tokens;
        private final Lore draft;
        private int token;
        /** The order that is being read. */
        private int order;

        Parser(Tokens tokens, Lore draft) {
            this.tokens = tokens;
            this.draft = draft;
            token = 0;
            order = 0;
        }

        int token() {
            return token;
        }

        boolean readList() {
            draft.clear();
            token = 0;
            boolean fits = true;
            for (int n = 0; n < MOST_TOKENS && fits && kind() != Kind.END; n++) {
                fits = readLine() && take(Kind.SEMICOLON);
            }
            return fits;
        }

        private boolean readLine() {
            switch (kind()) {
                case Kind.BARK: return readBark();
                case Kind.BEATER: return readBeater();
                case Kind.SPIRIT: return readSpirit();
                case Kind.SOAK: return readSoak() && readWhen();
                case Kind.BEAT: return readPair(Kind.BEAT, Kind.ON) && readWhen();
                case Kind.CUT: return readPair(Kind.CUT, Kind.FROM) && readWhen();
                default: return false;
            }
        }

        private boolean readBark() {
            int bark = draft.barks.add();
            return take(Kind.BARK) && take(Kind.NAME)
                && takeNumber(Kind.RAW, draft.barks, bark, Lore.RAW)
                && takeNumber(Kind.FIBRE, draft.barks, bark, Lore.FIBRE);
        }

        private boolean readBeater() {
            int beater = draft.beaters.add();
            return take(Kind.BEATER) && take(Kind.NAME)
                && takeNumber(Kind.HAND, draft.beaters, beater, Lore.HAND)
                && takeNumber(Kind.EVERY, draft.beaters, beater, Lore.EVERY);
        }

        private boolean readSpirit() {
            int spirit = draft.spirits.add();
            return take(Kind.SPIRIT) && take(Kind.NAME)
                && takeNumber(Kind.FOLDS, draft.spirits, spirit, Lore.FOLDS)
                && takeNumber(Kind.CUTS, draft.spirits, spirit, Lore.CUTS)
                && takeNumber(Kind.PRICE, draft.spirits, spirit, Lore.PRICE);
        }

        private boolean readSoak() {
            order = draft.orders.add();
            draft.orders.set(order, Lore.ORDER, Kind.SOAK);
            if (!takeName(Kind.SOAK, Lore.WHOSE) || !take(Kind.BY)) {
                return false;
            }
            draft.orders.set(order, Lore.SUM, draft.code.size());
            boolean fits = readSum(0);
            draft.orders.set(order, Lore.SUM_END, draft.code.size());
            return fits;
        }

        private boolean readPair(int kind, int link) {
            order = draft.orders.add();
            draft.orders.set(order, Lore.ORDER, kind);
            return takeName(kind, Lore.WHOSE) && takeName(link, Lore.WHERE);
        }

        /** Without a test its code is empty. */
        private boolean readWhen() {
            draft.orders.set(order, Lore.TEST, draft.code.size());
            boolean fits = !take(Kind.WHEN) || readTest(0);
            draft.orders.set(order, Lore.TEST_END, draft.code.size());
            return fits;
        }

        private boolean readTest(int depth) {
            boolean fits = readBoth(depth);
            for (int n = 0; n < MOST_TOKENS && fits && kind() == Kind.OR; n++) {
                fits = take(Kind.OR) && readBoth(depth) && write(Kind.OR, 0, 2);
            }
            return fits;
        }

        private boolean readBoth(int depth) {
            boolean fits = readSingle(depth);
            for (int n = 0; n < MOST_TOKENS && fits && kind() == Kind.AND; n++) {
                fits = take(Kind.AND) && readSingle(depth) && write(Kind.AND, 0, 2);
            }
            return fits;
        }

        private boolean readSingle(int depth) {
            switch (kind()) {
                case Kind.NOT:
                    return depth < DEEPEST && take(Kind.NOT) && readSingle(depth + 1) && write(Kind.NOT, 0, 1);
                case Kind.OPEN_TEST:
                    return depth < DEEPEST && take(Kind.OPEN_TEST) && readTest(depth + 1) && take(Kind.CLOSE_TEST);
                default:
                    break;
            }
            if (!readSum(depth)) {
                return false;
            }
            int kind = kind();
            boolean compares = kind >= Kind.LESS && kind <= Kind.AT_LEAST;
            return compares && take(kind) && readSum(depth) && write(kind, 0, 2);
        }

        private boolean readSum(int depth) {
            boolean fits = readProduct(depth);
            for (int n = 0; n < MOST_TOKENS && fits && (kind() == Kind.PLUS || kind() == Kind.MINUS); n++) {
                int kind = kind();
                fits = take(kind) && readProduct(depth) && write(kind, 0, 2);
            }
            return fits;
        }

        private boolean readProduct(int depth) {
            boolean fits = readValue(depth);
            for (int n = 0; n < MOST_TOKENS && fits && (kind() == Kind.TIMES || kind() == Kind.OVER); n++) {
                int kind = kind();
                fits = take(kind) && readValue(depth) && write(kind, 0, 2);
            }
            return fits;
        }

        private boolean readValue(int depth) {
            int kind = kind();
            switch (kind) {
                case Kind.NUMBER:
                case Kind.HOUR:
                case Kind.COINS:
                case Kind.WEATHER:
                    return take(kind) && write(kind, tokens.value(token - 1), 0);
                case Kind.RAW:
                case Kind.SOAKED:
                case Kind.BOARD:
                case Kind.SHEETS:
                case Kind.FIGURES:
                    return take(kind) && take(Kind.NAME) && write(kind, tokens.value(token - 1), 0);
                case Kind.MINUS:
                    return depth < DEEPEST && take(kind) && readValue(depth + 1) && write(Kind.TURN, 0, 1);
                case Kind.OPEN:
                    return depth < DEEPEST && take(kind) && readSum(depth + 1) && take(Kind.CLOSE);
                case Kind.MIN:
                case Kind.MAX:
                    return take(kind) && depth < DEEPEST && take(Kind.OPEN) && readSum(depth + 1)
                        && take(Kind.COMMA) && readSum(depth + 1) && take(Kind.CLOSE) && write(kind, 0, 2);
                default:
                    return false;
            }
        }

        private int kind() {
            return tokens.kind(token);
        }

        private boolean take(int kind) {
            if (tokens.kind(token) != kind) {
                return false;
            }
            token++;
            return true;
        }

        private boolean takeNumber(int keyword, Table table, int row, int column) {
            if (!take(keyword) || !take(Kind.NUMBER)) {
                return false;
            }
            table.set(row, column, tokens.value(token - 1));
            return true;
        }

        private boolean takeName(int keyword, int column) {
            if (!take(keyword) || !take(Kind.NAME)) {
                return false;
            }
            draft.orders.set(order, column, tokens.value(token - 1));
            return true;
        }

        /** Writes down a step that takes so many sides from the stack: a value takes none. It always fits. */
        private boolean write(int kind, int value, int sides) {
            int step = draft.code.add();
            draft.code.set(step, Lore.STEP, kind);
            draft.code.set(step, Lore.STEP_VALUE, value);
            draft.code.set(step, Lore.STEP_SIDES, sides);
            return true;
        }
    }

    /** What a list tells: what there is at first, the orders, and their sums and tests as steps on a stack. */
    private static final class Lore {
        static final int RAW = 0;
        static final int FIBRE = 1;

        static final int HAND = 0;
        static final int EVERY = 1;

        static final int FOLDS = 0;
        static final int CUTS = 1;
        static final int PRICE = 2;

        static final int ORDER = 0;
        static final int WHOSE = 1;
        static final int WHERE = 2;
        static final int SUM = 3;
        static final int SUM_END = 4;
        static final int TEST = 5;
        static final int TEST_END = 6;

        static final int STEP = 0;
        static final int STEP_VALUE = 1;
        static final int STEP_SIDES = 2;

        final Table barks;
        final Table beaters;
        final Table spirits;
        final Table orders;
        final Table code;

        Lore() {
            barks = new Table(2, MOST_BARKS);
            beaters = new Table(2, MOST_BEATERS);
            spirits = new Table(3, MOST_SPIRITS);
            orders = new Table(7, MOST_ORDERS);
            code = new Table(3, MOST_TOKENS);
        }

        void clear() {
            barks.clear();
            beaters.clear();
            spirits.clear();
            orders.clear();
            code.clear();
        }

        void copy(Lore other) {
            barks.copy(other.barks);
            beaters.copy(other.beaters);
            spirits.copy(other.spirits);
            orders.copy(other.orders);
            code.copy(other.code);
        }
    }

    /** What changes from hour to hour, or by hand. */
    private static final class Mountain {
        static final int RAW = 0;
        static final int SOAKED = 1;
        static final int PULP = 2;

        static final int EVERY = 0;

        static final int SOLD = 0;

        static final int BARK = 0;
        static final int THICK = 1;
        static final int WET = 2;
        static final int MOULD = 3;

        static final int SPIRIT = 0;
        static final int BEAUTY = 1;

        static final int TOO_MOULDY = 5;

        final Table barks;
        final Table beaters;
        final Table spirits;
        final Table sheets;
        final Table figures;
        int hour;
        int weather;
        int tourists;
        int coins;
        int made;
        int cut;
        int sold;
        /** The beater who is thought away; NOBODY on the mountain that there is. */
        int absent;

        Mountain() {
            barks = new Table(3, MOST_BARKS);
            beaters = new Table(1, MOST_BEATERS);
            spirits = new Table(1, MOST_SPIRITS);
            sheets = new Table(4, MOST_SHEETS);
            figures = new Table(2, MOST_FIGURES);
            hour = 0;
            weather = 2;
            tourists = 3;
            coins = 0;
            made = 0;
            cut = 0;
            sold = 0;
            absent = NOBODY;
        }

        /** Begins anew with what a list tells; the hour, the weather and the tourists stay. */
        void begin(Lore lore) {
            barks.clear();
            for (int bark = 0; bark < lore.barks.size(); bark++) {
                barks.set(barks.add(), RAW, lore.barks.get(bark, Lore.RAW));
            }
            beaters.clear();
            for (int beater = 0; beater < lore.beaters.size(); beater++) {
                beaters.set(beaters.add(), EVERY, lore.beaters.get(beater, Lore.EVERY));
            }
            spirits.clear();
            for (int spirit = 0; spirit < lore.spirits.size(); spirit++) {
                spirits.set(spirits.add(), SOLD, 0);
            }
            sheets.clear();
            figures.clear();
            coins = 0;
            made = 0;
            cut = 0;
            sold = 0;
        }

        void copy(Mountain other) {
            barks.copy(other.barks);
            beaters.copy(other.beaters);
            spirits.copy(other.spirits);
            sheets.copy(other.sheets);
            figures.copy(other.figures);
            hour = other.hour;
            weather = other.weather;
            tourists = other.tourists;
            coins = other.coins;
            made = other.made;
            cut = other.cut;
            sold = other.sold;
            absent = other.absent;
        }

        int mouldySheets() {
            int mouldy = 0;
            for (int sheet = 0; sheet < sheets.size(); sheet++) {
                if (sheets.get(sheet, MOULD) >= TOO_MOULDY) {
                    mouldy++;
                }
            }
            return mouldy;
        }
    }

    /** How the hours go by on a mountain. */
    private static final class Course {
        private static final int MOST_SOAKED = 60;
        private static final int PULP_OF_SHEET = 10;
        /** At most 6 values wait for their other sides on each of the 9 depths, so this is enough. */
        private static final int STACK_ROOM = 64;

        private final Lore lore;
        private final Mountain mountain;
        /** At which bark's board each beater beats in this hour, or NOWHERE. */
        private final Table boards;
        private final int[] stack;

        Course(Lore lore, Mountain mountain) {
            this.lore = lore;
            this.mountain = mountain;
            boards = new Table(1, MOST_BEATERS);
            stack = new int[STACK_ROOM];
        }

        void go(int hours) {
            for (int n = 0; n < hours; n++) {
                soak();
                chooseBoards();
                for (int bark = 0; bark < lore.barks.size(); bark++) {
                    beatAt(bark);
                }
                dry();
                cut();
                if (mountain.hour % 8 == 7) {
                    sell();
                }
                mountain.hour++;
            }
        }

        private void soak() {
            for (int order = 0; order < lore.orders.size(); order++) {
                if (lore.orders.get(order, Lore.ORDER) == Kind.SOAK
                        && reckon(order, Lore.TEST, Lore.TEST_END) != 0) {
                    int bark = lore.orders.get(order, Lore.WHOSE);
                    int raw = mountain.barks.get(bark, Mountain.RAW);
                    int soaked = mountain.barks.get(bark, Mountain.SOAKED);
                    int told = reckon(order, Lore.SUM, Lore.SUM_END);
                    int many = Math.max(0, Math.min(told, Math.min(raw, MOST_SOAKED - soaked)));
                    mountain.barks.set(bark, Mountain.RAW, raw - many);
                    mountain.barks.set(bark, Mountain.SOAKED, soaked + many);
                }
            }
        }

        /** Chooses for all before anybody beats, as no test may see what is beaten in this hour. */
        void chooseBoards() {
            boards.clear();
            for (int beater = 0; beater < lore.beaters.size(); beater++) {
                boards.set(boards.add(), 0, boardOf(beater));
            }
        }

        /** Behind how many hours comes one in which the beater beats. */
        int hoursToBeat(int beater) {
            int every = mountain.beaters.get(beater, Mountain.EVERY);
            int gone = every > 0 ? mountain.hour % every : 0;
            return gone == 0 ? 0 : every - gone;
        }

        /** The bark at whose board a beater would beat now; NOWHERE if at none. */
        int boardOf(int beater) {
            if (beater == mountain.absent || hoursToBeat(beater) != 0) {
                return NOWHERE;
            }
            for (int order = 0; order < lore.orders.size(); order++) {
                if (lore.orders.get(order, Lore.ORDER) == Kind.BEAT
                        && lore.orders.get(order, Lore.WHOSE) == beater
                        && reckon(order, Lore.TEST, Lore.TEST_END) != 0) {
                    return lore.orders.get(order, Lore.WHERE);
                }
            }
            return NOWHERE;
        }

        /** The force on a board by those who have chosen it. */
        int forceAt(int bark) {
            int hands = 0;
            int beaters = 0;
            int rhythm = 0;
            boolean alike = true;
            for (int beater = 0; beater < boards.size(); beater++) {
                if (boards.get(beater, 0) == bark) {
                    int every = mountain.beaters.get(beater, Mountain.EVERY);
                    alike = alike && (beaters == 0 || every == rhythm);
                    rhythm = every;
                    hands += lore.beaters.get(beater, Lore.HAND);
                    beaters++;
                }
            }
            if (beaters < 2) {
                return hands;
            }
            return alike ? hands + beaters : hands / 2;
        }

        private void beatAt(int bark) {
            int beaters = boards.countOf(0, bark);
            if (beaters == 0) {
                return;
            }
            int fibre = lore.barks.get(bark, Lore.FIBRE);
            int soaked = mountain.barks.get(bark, Mountain.SOAKED);
            int beaten = Math.min(soaked, quotient(forceAt(bark), fibre));
            mountain.barks.set(bark, Mountain.SOAKED, soaked - beaten);
            int pulp = mountain.barks.get(bark, Mountain.PULP) + beaten;
            for (; pulp >= PULP_OF_SHEET && !mountain.sheets.isFull(); pulp -= PULP_OF_SHEET) {
                makeSheet(bark, Math.max(1, fibre + 3 - beaters));
            }
            mountain.barks.set(bark, Mountain.PULP, pulp);
        }

        private void makeSheet(int bark, int thick) {
            int sheet = mountain.sheets.add();
            mountain.sheets.set(sheet, Mountain.BARK, bark);
            mountain.sheets.set(sheet, Mountain.THICK, thick);
            mountain.sheets.set(sheet, Mountain.WET, 4);
            mountain.made++;
        }

        private void dry() {
            int weather = mountain.weather;
            int change = weather <= 2 ? -1 : weather >= 4 ? 1 : 0;
            for (int sheet = 0; sheet < mountain.sheets.size(); sheet++) {
                int wet = Math.max(0, Math.min(9, mountain.sheets.get(sheet, Mountain.WET) + change));
                mountain.sheets.set(sheet, Mountain.WET, wet);
                if (wet >= 3 || weather == MOST_WEATHER) {
                    int mould = mountain.sheets.get(sheet, Mountain.MOULD);
                    mountain.sheets.set(sheet, Mountain.MOULD, Math.min(9, mould + 1));
                }
            }
        }

        private void cut() {
            for (int order = 0; order < lore.orders.size(); order++) {
                if (lore.orders.get(order, Lore.ORDER) == Kind.CUT && !mountain.figures.isFull()
                        && reckon(order, Lore.TEST, Lore.TEST_END) != 0) {
                    int spirit = lore.orders.get(order, Lore.WHOSE);
                    int sheet = sheetFor(spirit, lore.orders.get(order, Lore.WHERE));
                    if (sheet >= 0) {
                        cutOut(spirit, sheet);
                    }
                }
            }
        }

        /** The oldest sheet of a bark of which a spirit can be cut; -1 if there is none. */
        private int sheetFor(int spirit, int bark) {
            int folds = lore.spirits.get(spirit, Lore.FOLDS);
            for (int sheet = 0; sheet < mountain.sheets.size(); sheet++) {
                boolean thin = folds == 0 || mountain.sheets.get(sheet, Mountain.THICK) <= quotient(12, folds);
                if (thin && mountain.sheets.get(sheet, Mountain.BARK) == bark
                        && mountain.sheets.get(sheet, Mountain.WET) == 0
                        && mountain.sheets.get(sheet, Mountain.MOULD) < Mountain.TOO_MOULDY) {
                    return sheet;
                }
            }
            return -1;
        }

        private void cutOut(int spirit, int sheet) {
            int folds = lore.spirits.get(spirit, Lore.FOLDS);
            int cuts = lore.spirits.get(spirit, Lore.CUTS);
            int thick = mountain.sheets.get(sheet, Mountain.THICK);
            int mould = mountain.sheets.get(sheet, Mountain.MOULD);
            mountain.sheets.remove(sheet);
            int figure = mountain.figures.add();
            mountain.figures.set(figure, Mountain.SPIRIT, spirit);
            mountain.figures.set(figure, Mountain.BEAUTY, Math.max(0, cuts * (folds + 1) - thick * folds - 2 * mould));
            mountain.cut++;
        }

        private void sell() {
            for (int n = 0; n < mountain.tourists && mountain.figures.size() > 0; n++) {
                int figure = dearestFigure();
                int spirit = mountain.figures.get(figure, Mountain.SPIRIT);
                mountain.coins += paidFor(figure);
                mountain.sold++;
                mountain.spirits.set(spirit, Mountain.SOLD, mountain.spirits.get(spirit, Mountain.SOLD) + 1);
                mountain.figures.remove(figure);
            }
        }

        private int dearestFigure() {
            int dearest = 0;
            for (int figure = 1; figure < mountain.figures.size(); figure++) {
                if (paidFor(figure) > paidFor(dearest)) {
                    dearest = figure;
                }
            }
            return dearest;
        }

        int paidFor(int figure) {
            int spirit = mountain.figures.get(figure, Mountain.SPIRIT);
            return lore.spirits.get(spirit, Lore.PRICE) + mountain.figures.get(figure, Mountain.BEAUTY) / 4;
        }

        /** What an order's steps come to; 1 without any, as an order without a test always holds. */
        private int reckon(int order, int first, int behind) {
            int end = lore.orders.get(order, behind);
            int height = 0;
            int result = 1;
            for (int at = lore.orders.get(order, first); at < end; at++) {
                int step = lore.code.get(at, Lore.STEP);
                int sides = lore.code.get(at, Lore.STEP_SIDES);
                int right = sides >= 1 && height >= 1 && height <= stack.length ? stack[height - 1] : 0;
                int left = sides >= 2 && height >= 2 && height <= stack.length ? stack[height - 2] : 0;
                result = sides == 0 ? valueOf(step, lore.code.get(at, Lore.STEP_VALUE)) : resultOf(step, left, right);
                height -= sides;
                if (height >= 0 && height < stack.length) {
                    stack[height] = result;
                }
                height++;
            }
            return result;
        }

        private int valueOf(int step, int value) {
            switch (step) {
                case Kind.HOUR: return mountain.hour;
                case Kind.COINS: return mountain.coins;
                case Kind.WEATHER: return mountain.weather;
                case Kind.RAW: return mountain.barks.get(value, Mountain.RAW);
                case Kind.SOAKED: return mountain.barks.get(value, Mountain.SOAKED);
                case Kind.BOARD: return mountain.barks.get(value, Mountain.PULP);
                case Kind.SHEETS: return mountain.sheets.countOf(Mountain.BARK, value);
                case Kind.FIGURES: return mountain.figures.countOf(Mountain.SPIRIT, value);
                default: return value;
            }
        }

        /** What a step makes of its sides; a test is 1 where it holds, and 0 where it does not. */
        private static int resultOf(int step, int left, int right) {
            switch (step) {
                case Kind.TURN: return -right;
                case Kind.PLUS: return left + right;
                case Kind.MINUS: return left - right;
                case Kind.TIMES: return left * right;
                case Kind.OVER: return quotient(left, right);
                case Kind.MIN: return Math.min(left, right);
                case Kind.MAX: return Math.max(left, right);
                case Kind.LESS: return left < right ? 1 : 0;
                case Kind.MORE: return left > right ? 1 : 0;
                case Kind.EQUAL: return left == right ? 1 : 0;
                case Kind.AT_MOST: return left <= right ? 1 : 0;
                case Kind.AT_LEAST: return left >= right ? 1 : 0;
                case Kind.AND: return left & right;
                case Kind.OR: return left | right;
                case Kind.NOT: return 1 - right;
                default: return 0;
            }
        }

        private static int quotient(int left, int right) {
            return right == 0 ? 0 : left / right;
        }
    }
}
