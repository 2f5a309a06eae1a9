/**
 * A scale that adds a weight of its own, shows just what is left over by its figures, and one more whenever somebody
 * laughs; with a book of weighings, and what can be known from it.
 */
public final class SelfScale {
    public static final int BAD = -1, STATE = -2, FULL = -3, NONE = -9;
    public static final int NO = -1000000;

    private static final int MOST_THINGS = 3;
    private static final int MOST_SETS = 8;
    private static final int MOST_WEIGHT = 9;
    private static final int LEAST_FIGURES = 2;
    private static final int MOST_FIGURES = 20;
    private static final int MOST_LINES = 12;
    private static final int MOST_BYTES = 200;
    private static final int MOST_SACK = 27;
    /** The number by which the scale's own weight is asked for, as if it were a thing. */
    private static final int OWN = 3;
    /** The laugh of a line of which nobody heard whether there was one. */
    private static final int UNHEARD = 2;

    private final Text text;
    private final Reader reader;
    private final Scale scale;
    private final Book book;
    private final Image firstImage;
    private final Image secondImage;
    private final Kinds kinds;
    private final Worlds worlds;
    private final Plan plan;

    public SelfScale() {
        text = new Text();
        reader = new Reader(text);
        scale = new Scale();
        book = new Book();
        firstImage = new Image();
        secondImage = new Image();
        kinds = new Kinds(scale, book);
        worlds = new Worlds(scale, book);
        plan = new Plan(scale, worlds);
    }

    // ---- things and a scale

    public int type(long v, int n) {
        if (n < 1 || n > 8) {
            return BAD;
        }
        if (text.length() + n > MOST_BYTES) {
            return FULL;
        }
        for (int k = n - 1; k >= 0; k--) {
            text.append((int) (v >>> (8 * k)) & 255);
        }
        return text.length();
    }

    public int clear() {
        int had = text.length();
        text.wipe();
        return had;
    }

    public int market() {
        int fault = reader.read();
        if (fault >= 0) {
            return -10 - fault;
        }
        scale.copyFrom(reader.told());
        book.wipe();
        firstImage.drop();
        secondImage.drop();
        text.wipe();
        worlds.forget();
        return reader.items();
    }

    public int thing(int i) {
        return isItem(i) ? scale.weightOf(i) : BAD;
    }

    // ---- the book

    public int weigh(int set, int laughs, int heard) {
        if (!isSet(set) || !isBetween(laughs, 0, 1) || !isBetween(heard, 0, 1)) {
            return BAD;
        }
        if (book.isFull()) {
            return FULL;
        }
        int shown = scale.leftOver(scale.loadOf(set) + scale.own() + laughs);
        book.add(set, shown, heard == 1 ? laughs : UNHEARD);
        worlds.forget();
        return shown;
    }

    public int tell(int set, int shown, int laugh) {
        if (!isSet(set) || !isBetween(shown, 0, scale.figures() - 1) || !isBetween(laugh, 0, UNHEARD)) {
            return BAD;
        }
        if (book.isFull()) {
            return FULL;
        }
        book.add(set, shown, laugh);
        worlds.forget();
        return book.lines();
    }

    public int line(int k, int what) {
        if (!isLine(k)) {
            return BAD;
        }
        switch (what) {
            case 0:
                return book.setOf(k);
            case 1:
                return book.shownOf(k);
            case 2:
                return book.laughOf(k);
            default:
                return BAD;
        }
    }

    public int undo() {
        if (book.lines() == 0) {
            return STATE;
        }
        book.dropLatest();
        worlds.forget();
        return book.lines();
    }

    // ---- what could be

    public int could(int i, int w) {
        if (i != -1 && !isItem(i) || !isBetween(w, 0, MOST_WEIGHT)) {
            return BAD;
        }
        return i == -1 ? known().left() : known().leftWith(i, w);
    }

    public int sure(int i) {
        return isItem(i) ? known().onlyWeightOf(i) : BAD;
    }

    public int wrong(int what) {
        if (!isBetween(what, 0, 1)) {
            return BAD;
        }
        return what == 0 ? known().fewestFalse() : known().everFalse();
    }

    public int next(int what) {
        if (!isBetween(what, 0, 1)) {
            return BAD;
        }
        if (scale.things() == 0) {
            return NONE;
        }
        worlds.learn();
        int set = plan.bestSet();
        return what == 0 ? set : plan.worstOf(set);
    }

    public int fewest(int i) {
        if (!isItem(i)) {
            return BAD;
        }
        worlds.learn();
        return plan.weighingsFor(i);
    }

    public int laugh(int k) {
        return isLine(k) ? known().surelyLaughed(k) : BAD;
    }

    public long odds(int k, int a, int b, int what) {
        if (!isLine(k) || !isBetween(b, 1, 9) || !isBetween(a, 1, b - 1) || !isBetween(what, 0, 1)) {
            return BAD;
        }
        if (known().left() == 0) {
            return STATE;
        }
        long upper = worlds.chances(k, a, b);
        long lower = worlds.allChances(a, b);
        long divisor = greatestDivisor(upper, lower);
        if (divisor < 1) {
            return STATE;
        }
        return (what == 0 ? upper : lower) / divisor;
    }

    // ---- sacks and turns

    public int sack(int weight, int what) {
        if (!isBetween(weight, 0, MOST_SACK) || !isBetween(what, 0, 2)) {
            return BAD;
        }
        int sides = scale.sidesOf(weight);
        if (sides < 0) {
            return NONE;
        }
        int one = sides / MOST_SETS;
        int other = sides % MOST_SETS;
        if (what == 0) {
            return Integer.bitCount(one) + Integer.bitCount(other);
        }
        return what == 1 ? one : other;
    }

    public int byTurns() {
        return scale.shownByTurns();
    }

    // ---- kinds, images

    public int mark(int kind, int i) {
        if (!isBetween(kind, 0, 5) || !isBetween(i, 0, scale.things() - 1)) {
            return NO;
        }
        return kinds.markAs(kind, i);
    }

    public int keep(int image) {
        if (!isBetween(image, 0, 1)) {
            return BAD;
        }
        imageOf(image).take(book);
        return book.lines();
    }

    public int back(int image) {
        if (!isBetween(image, 0, 1)) {
            return BAD;
        }
        if (!imageOf(image).isKept()) {
            return STATE;
        }
        book.copyFrom(imageOf(image).kept());
        worlds.forget();
        return book.lines();
    }

    public int count(int what) {
        switch (what) {
            case 0:
                return scale.things();
            case 1:
                return scale.figures();
            case 2:
                return book.lines();
            case 3:
                return text.length();
            default:
                return BAD;
        }
    }

    public long trace() {
        return kinds.asked();
    }

    // ---- what is asked for

    private static boolean isBetween(int number, int least, int most) {
        return number >= least && number <= most;
    }

    private boolean isItem(int i) {
        return i == OWN || isBetween(i, 0, scale.things() - 1);
    }

    private boolean isSet(int set) {
        return isBetween(set, 0, scale.sets() - 1);
    }

    private boolean isLine(int k) {
        return isBetween(k, 0, book.lines() - 1);
    }

    /** The worlds, held against the book as it is now. */
    private Worlds known() {
        worlds.learn();
        return worlds;
    }

    private Image imageOf(int image) {
        return image == 0 ? firstImage : secondImage;
    }

    /** Euclid's way; 0 only of two noughts. Numbers of 63 bits need fewer than a hundred steps. */
    private static long greatestDivisor(long one, long other) {
        long divisor = one;
        long rest = other;
        for (int step = 0; step < 100 && rest != 0; step++) {
            long left = divisor % rest;
            divisor = rest;
            rest = left;
        }
        return divisor;
    }

    /** A row of numbers that looks at each place before it uses it: elsewhere it has 0 and takes nothing. */
    static final class Row {
        private final int[] cells;

        Row(int length) {
            cells = new int[length < 0 ? 0 : length];
        }

        int get(int place) {
            return place >= 0 && place < cells.length ? cells[place] : 0;
        }

        void put(int place, int number) {
            if (place >= 0 && place < cells.length) {
                cells[place] = number;
            }
        }

        void add(int place, int more) {
            if (place >= 0 && place < cells.length) {
                cells[place] += more;
            }
        }

        void join(int place, int bits) {
            if (place >= 0 && place < cells.length) {
                cells[place] |= bits;
            }
        }

        void wipe() {
            for (int place = 0; place < cells.length; place++) {
                cells[place] = 0;
            }
        }

        void copyFrom(Row other) {
            for (int place = 0; place < cells.length; place++) {
                cells[place] = other.get(place);
            }
        }
    }

    /** The text that tells of things and a scale, byte by byte. */
    static final class Text {
        private final Row bytes = new Row(MOST_BYTES);
        private int length;

        int length() {
            return length;
        }

        /** The byte at a place, or -1 where the text has ended. */
        int byteAt(int place) {
            return place < length ? bytes.get(place) : -1;
        }

        void append(int sign) {
            if (length < MOST_BYTES) {
                bytes.put(length, sign);
                length++;
            }
        }

        void wipe() {
            length = 0;
        }

        boolean has(String word, int from, int to) {
            if (to - from != word.length()) {
                return false;
            }
            for (int k = 0; k < word.length(); k++) {
                if (byteAt(from + k) != word.charAt(k)) {
                    return false;
                }
            }
            return true;
        }
    }

    /** Reads the text's items into a scale of its own, so that a fault leaves the true one as it was. */
    static final class Reader {
        private static final int SOUND = -1;
        private static final int END = 0, FAULTY = 1, THING_WORD = 2, OWN_WORD = 3, FIGURES_WORD = 4, NUMBER = 5,
                STOP = 6;

        private final Text text;
        private final Scale told = new Scale();
        private int items;
        private boolean isOwnTold;
        private boolean areFiguresTold;
        private int start;
        private int end;
        private int number;

        Reader(Text text) {
            this.text = text;
        }

        Scale told() {
            return told;
        }

        int items() {
            return items;
        }

        /** The place of the fault, or SOUND. */
        int read() {
            begin();
            // An item takes four bytes and more: there are fewer items than bytes.
            for (int round = 0; round <= MOST_BYTES; round++) {
                int word = token();
                if (word == END) {
                    return SOUND;
                }
                if (!mayBegin(word) || token() != NUMBER || !mayTake(word)) {
                    return start;
                }
                take(word);
                if (token() != STOP) {
                    return start;
                }
                items++;
            }
            return start;
        }

        private void begin() {
            told.reset();
            items = 0;
            isOwnTold = false;
            areFiguresTold = false;
            end = 0;
        }

        private boolean mayBegin(int word) {
            switch (word) {
                case THING_WORD:
                    return told.things() < MOST_THINGS;
                case OWN_WORD:
                    return !isOwnTold;
                case FIGURES_WORD:
                    return !areFiguresTold;
                default:
                    return false;
            }
        }

        private boolean mayTake(int word) {
            switch (word) {
                case THING_WORD:
                    return isBetween(number, 1, MOST_WEIGHT);
                case OWN_WORD:
                    return isBetween(number, 0, MOST_WEIGHT);
                default:
                    return isBetween(number, LEAST_FIGURES, MOST_FIGURES);
            }
        }

        private void take(int word) {
            switch (word) {
                case THING_WORD:
                    told.addThing(number);
                    break;
                case OWN_WORD:
                    told.setOwn(number);
                    isOwnTold = true;
                    break;
                default:
                    told.setFigures(number);
                    areFiguresTold = true;
                    break;
            }
        }

        /** What the next token is; start is the place of its first byte, or the text's length at its END. */
        private int token() {
            start = endOfBlanks(end);
            int sign = text.byteAt(start);
            if (sign < 0) {
                return END;
            }
            if (isLetter(sign)) {
                end = endOfWord(start);
                return wordToken();
            }
            if (isDigit(sign)) {
                end = endOfDigits(start);
                return numberToken();
            }
            end = start + 1;
            return sign == ';' ? STOP : FAULTY;
        }

        private int wordToken() {
            if (text.has("thing", start, end)) {
                return THING_WORD;
            }
            if (text.has("own", start, end)) {
                return OWN_WORD;
            }
            return text.has("figures", start, end) ? FIGURES_WORD : FAULTY;
        }

        private int numberToken() {
            int first = text.byteAt(start) - '0';
            if (end - start == 1) {
                number = first;
                return NUMBER;
            }
            if (end - start > 2 || first == 0) {
                return FAULTY;
            }
            number = first * 10 + text.byteAt(start + 1) - '0';
            return NUMBER;
        }

        private int endOfBlanks(int from) {
            int place = from;
            while (place < text.length() && text.byteAt(place) == ' ') {
                place++;
            }
            return place;
        }

        private int endOfWord(int from) {
            int place = from;
            while (place < text.length() && isLetter(text.byteAt(place))) {
                place++;
            }
            return place;
        }

        private int endOfDigits(int from) {
            int place = from;
            while (place < text.length() && isDigit(text.byteAt(place))) {
                place++;
            }
            return place;
        }

        private static boolean isLetter(int sign) {
            return isBetween(sign, 'a', 'z');
        }

        private static boolean isDigit(int sign) {
            return isBetween(sign, '0', '9');
        }
    }

    /** The things and the scale, as they truly are. */
    static final class Scale {
        private static final int FIGURES_AT_FIRST = 10;

        private final Row weights = new Row(MOST_THINGS);
        private final Row outcomes = new Row(MOST_SETS);
        private int things;
        private int own;
        private int figures = FIGURES_AT_FIRST;

        void reset() {
            things = 0;
            own = 0;
            figures = FIGURES_AT_FIRST;
        }

        void copyFrom(Scale other) {
            weights.copyFrom(other.weights);
            things = other.things;
            own = other.own;
            figures = other.figures;
        }

        void addThing(int weight) {
            if (things < MOST_THINGS) {
                weights.put(things, weight);
                things++;
            }
        }

        void setOwn(int weight) {
            own = weight;
        }

        void setFigures(int number) {
            figures = number;
        }

        int things() {
            return things;
        }

        int sets() {
            return 1 << things;
        }

        int own() {
            return own;
        }

        int figures() {
            return figures;
        }

        int weightOf(int item) {
            return item == OWN ? own : weights.get(item);
        }

        int loadOf(int set) {
            int load = 0;
            for (int i = 0; i < things; i++) {
                if ((set >> i & 1) == 1) {
                    load += weights.get(i);
                }
            }
            return load;
        }

        int leftOver(int load) {
            return figures < 1 ? 0 : load % figures;
        }

        /** The one side times MOST_SETS and the other side, of the sack of so much; -1: there is none. */
        int sidesOf(int weight) {
            int fewest = MOST_THINGS + 1;
            int sides = -1;
            for (int one = 0; one < sets(); one++) {
                for (int other = 0; other < sets(); other++) {
                    int taken = Integer.bitCount(one) + Integer.bitCount(other);
                    boolean isSack = (one & other) == 0 && loadOf(one) - loadOf(other) == weight;
                    if (isSack && taken < fewest) {
                        fewest = taken;
                        sides = one * MOST_SETS + other;
                    }
                }
            }
            return sides;
        }

        int shownByTurns() {
            for (int set = sets() - 1; set >= 0; set--) {
                outcomes.put(set, outcomeFrom(set));
            }
            return outcomes.get(0);
        }

        /** What comes of it with a set on the scale, the outcomes of all greater sets known. */
        private int outcomeFrom(int set) {
            boolean wantsMore = Integer.bitCount(set) % 2 == 0;
            int best = leftOver(loadOf(set) + own);
            for (int i = 0; i < things; i++) {
                if ((set >> i & 1) == 0) {
                    int outcome = outcomes.get(set | 1 << i);
                    best = wantsMore ? Math.max(best, outcome) : Math.min(best, outcome);
                }
            }
            return best;
        }
    }

    /** The lines of weighings, made or told. */
    static final class Book {
        private final Row sets = new Row(MOST_LINES);
        private final Row shown = new Row(MOST_LINES);
        private final Row laughs = new Row(MOST_LINES);
        private int lines;

        int lines() {
            return lines;
        }

        boolean isFull() {
            return lines >= MOST_LINES;
        }

        void wipe() {
            lines = 0;
        }

        void add(int set, int figure, int laughing) {
            if (isFull()) {
                return;
            }
            sets.put(lines, set);
            shown.put(lines, figure);
            laughs.put(lines, laughing);
            lines++;
        }

        void dropLatest() {
            if (lines > 0) {
                lines--;
            }
        }

        void copyFrom(Book other) {
            sets.copyFrom(other.sets);
            shown.copyFrom(other.shown);
            laughs.copyFrom(other.laughs);
            lines = other.lines;
        }

        int setOf(int k) {
            return sets.get(k);
        }

        int shownOf(int k) {
            return shown.get(k);
        }

        int laughOf(int k) {
            return laughs.get(k);
        }

        int linesWith(int i) {
            int with = 0;
            for (int k = 0; k < lines; k++) {
                with += setOf(k) >> i & 1;
            }
            return with;
        }

        int unheardLines() {
            int unheard = 0;
            for (int k = 0; k < lines; k++) {
                if (laughOf(k) == UNHEARD) {
                    unheard++;
                }
            }
            return unheard;
        }
    }

    /** A copy of the book, once one was taken. */
    static final class Image {
        private final Book kept = new Book();
        private boolean isKept;

        void take(Book book) {
            kept.copyFrom(book);
            isKept = true;
        }

        void drop() {
            isKept = false;
        }

        boolean isKept() {
            return isKept;
        }

        Book kept() {
            return kept;
        }
    }

    /** Marks of things as if of a kind, each body asking the kind above it, and the trace of all bodies asked. */
    static final class Kinds {
        private final Scale scale;
        private final Book book;
        private long asked;

        Kinds(Scale scale, Book book) {
            this.scale = scale;
            this.book = book;
        }

        long asked() {
            return asked;
        }

        int markAs(int kind, int i) {
            switch (kind) {
                case 0:
                    return asThing(i);
                case 1:
                    return asSack(i);
                case 2:
                    return asLead(i);
                case 3:
                    return asFlour(i);
                case 4:
                    return asGold(i);
                case 5:
                    return asBaby(i);
                default:
                    return NO;
            }
        }

        private int asThing(int i) {
            asked += 1;
            return scale.weightOf(i);
        }

        private int asSack(int i) {
            asked += 10;
            return asThing(i) + scale.own();
        }

        private int asLead(int i) {
            asked += 100;
            return asThing(i) * 2;
        }

        private int asFlour(int i) {
            asked += 1000;
            return asSack(i) - book.lines();
        }

        private int asGold(int i) {
            asked += 10000;
            return asLead(i) + i;
        }

        private int asBaby(int i) {
            asked += 100000;
            return asThing(i) + book.linesWith(i);
        }
    }

    /**
     * All worlds held against the book: learned once after the book has changed. A world is a number of four digits:
     * what the things 0, 1 and 2 weigh (0: there is no such thing), then the scale's own weight.
     */
    static final class Worlds {
        private static final int WORLDS = 10000;
        private static final int LOADS = 4 * MOST_WEIGHT + 1;
        private static final int LINE_BITS = (1 << MOST_LINES) - 1;
        private static final int LAUGHS = MOST_LINES + 1;

        private final Scale scale;
        private final Book book;
        /** By set and load: bits of the lines that do not fit; above them, bits of those unheard with a laugh there. */
        private final Row codes = new Row(MOST_SETS * LOADS);
        private final Row leftBits = new Row(WORLDS / 32 + 1);
        private final Row leftByWeight = new Row(4 * 10);
        private final Row leftByLaughs = new Row(LAUGHS);
        private final Row laughedByLaughs = new Row(MOST_LINES * LAUGHS);
        private boolean isKnown;
        private int left;
        private int fewestFalse;
        private int everFalse;

        Worlds(Scale scale, Book book) {
            this.scale = scale;
            this.book = book;
        }

        void forget() {
            isKnown = false;
        }

        /** What else is asked here tells of the book as it was when this was called. */
        void learn() {
            if (isKnown) {
                return;
            }
            isKnown = true;
            left = 0;
            fewestFalse = MOST_LINES + 1;
            everFalse = 0;
            leftBits.wipe();
            leftByWeight.wipe();
            leftByLaughs.wipe();
            laughedByLaughs.wipe();
            writeCodes();
            for (int own = 0; own <= MOST_WEIGHT; own++) {
                meetWorldsWith(own);
            }
        }

        int left() {
            return left;
        }

        int leftWith(int item, int weight) {
            return leftByWeight.get(item * 10 + weight);
        }

        int onlyWeightOf(int item) {
            for (int weight = 0; weight <= MOST_WEIGHT; weight++) {
                if (left > 0 && leftByWeight.get(item * 10 + weight) == left) {
                    return weight;
                }
            }
            return NONE;
        }

        int fewestFalse() {
            return fewestFalse;
        }

        int everFalse() {
            return everFalse;
        }

        int surelyLaughed(int k) {
            if (left == 0) {
                return NONE;
            }
            if (book.laughOf(k) != UNHEARD) {
                return book.laughOf(k);
            }
            int laughed = 0;
            for (int laughs = 0; laughs < LAUGHS; laughs++) {
                laughed += laughedByLaughs.get(k * LAUGHS + laughs);
            }
            if (laughed == left) {
                return 1;
            }
            return laughed == 0 ? 0 : NONE;
        }

        /** Of all chances, how many have a laugh in a line. */
        long chances(int k, int a, int b) {
            if (book.laughOf(k) != UNHEARD) {
                return book.laughOf(k) == 1 ? allChances(a, b) : 0;
            }
            long sum = 0;
            for (int laughs = 0; laughs < LAUGHS; laughs++) {
                sum += laughedByLaughs.get(k * LAUGHS + laughs) * chance(laughs, a, b);
            }
            return sum;
        }

        /** At most 7290 worlds times 8 to the 12th: far below what a long holds. */
        long allChances(int a, int b) {
            long sum = 0;
            for (int laughs = 0; laughs < LAUGHS; laughs++) {
                sum += leftByLaughs.get(laughs) * chance(laughs, a, b);
            }
            return sum;
        }

        private long chance(int laughs, int a, int b) {
            long product = 1;
            int unheard = book.unheardLines();
            for (int k = 0; k < unheard; k++) {
                product *= k < laughs ? a : b - a;
            }
            return product;
        }

        /** The first world that is left behind one; WORLDS if there is none. */
        int leftAfter(int world) {
            int at = world + 1;
            while (at < WORLDS) {
                int rest = leftBits.get(at >> 5) >>> (at & 31);
                if ((rest & 1) == 1) {
                    return at;
                }
                at = rest == 0 ? (at | 31) + 1 : at + 1;
            }
            return WORLDS;
        }

        static int weightIn(int world, int item) {
            switch (item) {
                case 0:
                    return world / 1000;
                case 1:
                    return world / 100 % 10;
                case 2:
                    return world / 10 % 10;
                default:
                    return world % 10;
            }
        }

        /** What a set weighs in a world, with the scale's own weight. */
        static int loadIn(int world, int set) {
            int load = world % 10;
            if ((set & 1) != 0) {
                load += world / 1000;
            }
            if ((set & 2) != 0) {
                load += world / 100 % 10;
            }
            if ((set & 4) != 0) {
                load += world / 10 % 10;
            }
            return load;
        }

        private void writeCodes() {
            codes.wipe();
            for (int k = 0; k < book.lines(); k++) {
                for (int load = 0; load < LOADS; load++) {
                    codes.join(book.setOf(k) * LOADS + load, codeOf(k, load));
                }
            }
        }

        private int codeOf(int k, int load) {
            int laugh = book.laughOf(k);
            boolean isWithout = scale.leftOver(load) == book.shownOf(k);
            boolean isWith = scale.leftOver(load + 1) == book.shownOf(k);
            boolean fits = laugh != 1 && isWithout || laugh != 0 && isWith;
            int code = fits ? 0 : 1 << k;
            return laugh == UNHEARD && isWith ? code | 1 << MOST_LINES + k : code;
        }

        private int code(int set, int load) {
            return codes.get(set * LOADS + load);
        }

        private void meetWorldsWith(int own) {
            int none = code(0, own);
            for (int a = leastOf(0); a <= mostOf(0); a++) {
                int one = none | code(1, own + a);
                for (int b = leastOf(1); b <= mostOf(1); b++) {
                    int two = one | code(2, own + b) | code(3, own + a + b);
                    for (int c = leastOf(2); c <= mostOf(2); c++) {
                        int all = two | code(4, own + c) | code(5, own + a + c) | code(6, own + b + c)
                                | code(7, own + a + b + c);
                        meet(a * 1000 + b * 100 + c * 10 + own, all);
                    }
                }
            }
        }

        /** A thing that isn't there weighs nothing in each world. */
        private int leastOf(int i) {
            return i < scale.things() ? 1 : 0;
        }

        private int mostOf(int i) {
            return i < scale.things() ? MOST_WEIGHT : 0;
        }

        private void meet(int world, int code) {
            int misfits = code & LINE_BITS;
            int wrongs = Integer.bitCount(misfits);
            if (wrongs < fewestFalse) {
                fewestFalse = wrongs;
                everFalse = misfits;
            } else if (wrongs == fewestFalse) {
                everFalse &= misfits;
            }
            if (misfits == 0) {
                leave(world, code >>> MOST_LINES);
            }
        }

        private void leave(int world, int laughed) {
            left++;
            leftBits.join(world >> 5, 1 << (world & 31));
            for (int item = 0; item <= OWN; item++) {
                leftByWeight.add(item * 10 + weightIn(world, item), 1);
            }
            int laughs = Integer.bitCount(laughed);
            leftByLaughs.add(laughs, 1);
            for (int k = 0; laughed >> k != 0 && k < MOST_LINES; k++) {
                laughedByLaughs.add(k * LAUGHS + laughs, laughed >> k & 1);
            }
        }
    }

    /** Which weighings to make, by the worlds that are left as they were last learned. */
    static final class Plan {
        private final Scale scale;
        private final Worlds worlds;
        private final Row leftByShown = new Row(MOST_FIGURES);
        /** Bits of what an item weighs, by what one weighing shows. */
        private final Row seenByOne = new Row(MOST_FIGURES);
        /** The same, by what two weighings show. */
        private final Row seenByTwo = new Row(MOST_FIGURES * MOST_FIGURES);

        Plan(Scale scale, Worlds worlds) {
            this.scale = scale;
            this.worlds = worlds;
        }

        /** Of all sets with things the one with the least worst, the least of several. */
        int bestSet() {
            int best = 1;
            int least = worstOf(1);
            for (int set = 2; set < scale.sets(); set++) {
                int worst = worstOf(set);
                if (worst < least) {
                    least = worst;
                    best = set;
                }
            }
            return best;
        }

        int worstOf(int set) {
            leftByShown.wipe();
            int left = worlds.left();
            int worst = 0;
            int world = -1;
            for (int k = 0; k < left; k++) {
                world = worlds.leftAfter(world);
                int shown = shownIn(world, set);
                leftByShown.add(shown, 1);
                worst = Math.max(worst, leftByShown.get(shown));
            }
            return worst;
        }

        int weighingsFor(int item) {
            if (worlds.left() == 0 || worlds.onlyWeightOf(item) != NONE) {
                return 0;
            }
            for (int set = 0; set < scale.sets(); set++) {
                if (isSureBy(set, item)) {
                    return 1;
                }
            }
            return item != OWN && isSureByNoneAndAlone(item) ? 2 : NONE;
        }

        private boolean isSureBy(int set, int item) {
            seenByOne.wipe();
            int left = worlds.left();
            int world = -1;
            for (int k = 0; k < left; k++) {
                world = worlds.leftAfter(world);
                if (isTorn(seenByOne, shownIn(world, set), Worlds.weightIn(world, item))) {
                    return false;
                }
            }
            return true;
        }

        /**
         * All that weighings can ever tell of a thing is what its weight leaves over. Weighing none, then the thing
         * alone, tells just that: where these two are too few, so are any two, even if the second hangs on the first.
         * (Of OWN, weighing none tells that by itself.)
         */
        private boolean isSureByNoneAndAlone(int thing) {
            seenByTwo.wipe();
            int left = worlds.left();
            int world = -1;
            for (int k = 0; k < left; k++) {
                world = worlds.leftAfter(world);
                int place = shownIn(world, 0) * MOST_FIGURES + shownIn(world, 1 << thing);
                if (isTorn(seenByTwo, place, Worlds.weightIn(world, thing))) {
                    return false;
                }
            }
            return true;
        }

        /** Whether a place has now seen two weights. */
        private static boolean isTorn(Row seen, int place, int weight) {
            seen.join(place, 1 << weight);
            return Integer.bitCount(seen.get(place)) > 1;
        }

        private int shownIn(int world, int set) {
            return scale.leftOver(Worlds.loadIn(world, set));
        }
    }
}
