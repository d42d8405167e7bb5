/** A word that grows and shrinks, and what is told of its borders, factors, squares, runs and suffixes. */
public final class BorderRuns {
    public static final int UNKNOWN = -1;
    public static final int BAD_VALUE = -2;
    public static final int FULL = -3;
    public static final int NONE = -4;

    private static final int MOST_LETTERS = 40;
    private static final int MOST_CHARACTERS = 60;
    private static final int MOST_STATES = 4;
    private static final int ALPHABET = 26;
    private static final int NO_LETTER = -1;
    private static final int NO_FAULT = -1;
    private static final int NO_RUN = -1;
    private static final int BEFORE_FAULTS = -100;

    private final Word word;
    private final Word draft;
    private final Word snapshot;
    private boolean hasSnapshot;
    private final History history;
    private final Text text;
    private final Reader reader;

    public BorderRuns() {
        word = new Word();
        draft = new Word();
        snapshot = new Word();
        hasSnapshot = false;
        history = new History();
        text = new Text();
        reader = new Reader();
    }

    // ---- the word

    public int add(int letter) {
        if (!isLetter(letter)) {
            return BAD_VALUE;
        }
        if (word.isFull()) {
            return FULL;
        }
        draftWith(letter);
        become(draft);
        return Periods.longestBorder(word, 0, word.length());
    }

    public int drop(int many) {
        if (many < 1 || many > MOST_LETTERS) {
            return BAD_VALUE;
        }
        if (many > word.length()) {
            return UNKNOWN;
        }
        draft.clear();
        draft.appendFactor(word, 0, word.length() - many);
        become(draft);
        return word.length();
    }

    public int change(int place, int letter) {
        if (!word.isPlace(place)) {
            return UNKNOWN;
        }
        if (!isLetter(letter)) {
            return BAD_VALUE;
        }
        int previous = word.letterAt(place);
        if (previous == letter) {
            return NONE;
        }
        draft.clear();
        draft.appendFactor(word, 0, place);
        draft.append(letter);
        draft.appendFactor(word, place + 1, word.length());
        become(draft);
        return previous;
    }

    public int reverse() {
        draft.clear();
        for (int place = word.length() - 1; place >= 0; place--) {
            draft.append(word.letterAt(place));
        }
        if (draft.isSameAs(word)) {
            return NONE;
        }
        become(draft);
        return word.length();
    }

    public int turn(int many) {
        if (many < 1 || many >= MOST_LETTERS) {
            return BAD_VALUE;
        }
        if (many >= word.length()) {
            return UNKNOWN;
        }
        draft.clear();
        draft.appendFactor(word, many, word.length());
        draft.appendFactor(word, 0, many);
        if (draft.isSameAs(word)) {
            return NONE;
        }
        become(draft);
        return word.letterAt(0);
    }

    public int fold(int from, int to) {
        if (!word.isFactor(from, to)) {
            return UNKNOWN;
        }
        if (word.length() + (to - from) > MOST_LETTERS) {
            return FULL;
        }
        draft.copyFrom(word);
        draft.appendFactor(word, from, to);
        become(draft);
        return word.length();
    }

    public int load() {
        int fault = reader.read(text);
        if (fault != NO_FAULT) {
            return BEFORE_FAULTS - fault;
        }
        become(reader.word());
        return word.length();
    }

    // ---- texts

    public int type(char character) {
        if (text.isFull()) {
            return FULL;
        }
        text.append(character);
        return text.length();
    }

    public int clearText() {
        int length = text.length();
        text.clear();
        return length;
    }

    // ---- history

    public int undo() {
        if (history.size() == 0) {
            return NONE;
        }
        history.moveLatestInto(word);
        return history.size();
    }

    public int keep() {
        snapshot.copyFrom(word);
        hasSnapshot = true;
        return word.length();
    }

    public int restore() {
        if (!hasSnapshot) {
            return NONE;
        }
        become(snapshot);
        return word.length();
    }

    // ---- what is told

    public int at(int place, int what) {
        if (!word.isPlace(place)) {
            return UNKNOWN;
        }
        switch (what) {
            case 0:
                return word.letterAt(place);
            case 1:
                return Suffixes.rank(word, place);
            case 2:
                return Runs.over(word, place);
            case 3:
                return Squares.endingAt(word, place + 1);
            default:
                return BAD_VALUE;
        }
    }

    public int border(int letters, int rank) {
        if (letters < 1 || letters > word.length()) {
            return UNKNOWN;
        }
        if (rank < 0) {
            return BAD_VALUE;
        }
        return Periods.rankedBorder(word, letters, rank);
    }

    public int factor(int from, int to, int what) {
        if (!word.isFactor(from, to)) {
            return UNKNOWN;
        }
        int size = to - from;
        switch (what) {
            case 0:
                return Ends.howMany(word, to, size);
            case 1:
                return Ends.first(word, to, size);
            case 2:
                return Ends.last(word, to, size);
            case 3:
                return Ends.longestOfClass(word, to, size);
            case 4:
                return Ends.shortestOfClass(word, to, size);
            case 5:
                return Ends.longestOfLink(word, to, size);
            case 6:
                return Periods.least(word, from, to);
            case 7:
                return Periods.longestBorder(word, from, to);
            case 8:
                return Periods.isPrimitive(word, from, to) ? 1 : 0;
            case 9:
                return Periods.hundredfoldPower(word, from, to);
            default:
                return BAD_VALUE;
        }
    }

    public int alike(int one, int other) {
        if (!word.isPlace(one) || !word.isPlace(other)) {
            return UNKNOWN;
        }
        return word.alikeFrom(one, other);
    }

    public int suffix(int rank) {
        if (rank < 0) {
            return BAD_VALUE;
        }
        return Suffixes.placeOf(word, rank);
    }

    public int square(int rank, int what) {
        if (rank < 0 || what < 0 || what > 1) {
            return BAD_VALUE;
        }
        return Squares.ranked(word, rank, what);
    }

    public int run(int rank, int what) {
        if (rank < 0 || what < 0 || what > 4) {
            return BAD_VALUE;
        }
        return Runs.ranked(word, rank, what);
    }

    public int unlike(int letters) {
        if (letters < 0 || letters > word.length()) {
            return UNKNOWN;
        }
        return Ends.unlikeFactors(word, letters);
    }

    public int ifLetter(int letter, int what) {
        if (!isLetter(letter) || !isBrought(what)) {
            return BAD_VALUE;
        }
        if (word.isFull()) {
            return FULL;
        }
        return broughtBy(letter, what);
    }

    public int bestLetter(int what) {
        if (!isBrought(what)) {
            return BAD_VALUE;
        }
        if (word.isFull()) {
            return FULL;
        }
        int best = 0;
        int most = broughtBy(best, what);
        for (int letter = 1; letter < ALPHABET; letter++) {
            int brought = broughtBy(letter, what);
            if (brought > most) {
                best = letter;
                most = brought;
            }
        }
        return best;
    }

    public int count(int what) {
        int length = word.length();
        switch (what) {
            case 0:
                return length;
            case 1:
                return word.unlikeLetters();
            case 2:
                return Ends.unlikeFactors(word, length);
            case 3:
                return Ends.classes(word);
            case 4:
                return Squares.total(word);
            case 5:
                return Runs.total(word);
            case 6:
                return Periods.longestBorder(word, 0, length);
            case 7:
                return Periods.least(word, 0, length);
            case 8:
                return Ends.longestTwice(word);
            case 9:
                return Squares.unlikeTotal(word);
            case 10:
                return history.size();
            case 11:
                return text.length();
            default:
                return BAD_VALUE;
        }
    }

    // ---- helpers of the calls above

    private static boolean isLetter(int letter) {
        return letter >= 0 && letter < ALPHABET;
    }

    private static boolean isBrought(int what) {
        return what >= 0 && what <= 3;
    }

    private void draftWith(int letter) {
        draft.copyFrom(word);
        draft.append(letter);
    }

    /** Every act ends here, so that none forgets to record the state before it. */
    private void become(Word next) {
        history.record(word);
        word.copyFrom(next);
    }

    private int broughtBy(int letter, int what) {
        draftWith(letter);
        int length = draft.length();
        switch (what) {
            case 0:
                return Periods.longestBorder(draft, 0, length);
            case 1:
                return Ends.endingFirstAt(draft, length);
            case 2:
                return Squares.endingAt(draft, length);
            default:
                return Runs.total(draft);
        }
    }

    /** A row of letters that is made once and written again and again. */
    private static final class Word {
        private final int[] letters = new int[MOST_LETTERS];
        private int length = 0;

        int length() {
            return length;
        }

        boolean isFull() {
            return length >= MOST_LETTERS;
        }

        boolean isPlace(int place) {
            return place >= 0 && place < length;
        }

        boolean isFactor(int from, int to) {
            return from >= 0 && from < to && to <= length;
        }

        int letterAt(int place) {
            if (place < 0 || place >= length || place >= letters.length) {
                return NO_LETTER;
            }
            return letters[place];
        }

        void clear() {
            length = 0;
        }

        void append(int letter) {
            if (length >= 0 && length < letters.length) {
                letters[length] = letter;
                length++;
            }
        }

        /** The other word may be this one: what is appended stands behind all that is read. */
        void appendFactor(Word other, int from, int to) {
            for (int place = from; place < to; place++) {
                append(other.letterAt(place));
            }
        }

        void copyFrom(Word other) {
            clear();
            appendFactor(other, 0, other.length());
        }

        boolean isSameAs(Word other) {
            if (length != other.length()) {
                return false;
            }
            for (int place = 0; place < length; place++) {
                if (letterAt(place) != other.letterAt(place)) {
                    return false;
                }
            }
            return true;
        }

        int unlikeLetters() {
            int seen = 0;
            for (int place = 0; place < length; place++) {
                seen |= 1 << letterAt(place);
            }
            return Integer.bitCount(seen);
        }

        /** How many letters from one place on are the same as those from the other. */
        int alikeFrom(int one, int other) {
            int most = length - Math.max(one, other);
            int alike = 0;
            while (alike < most && letterAt(one + alike) == letterAt(other + alike)) {
                alike++;
            }
            return alike;
        }

        /** How many letters ahead of one place are the same as those ahead of the other. */
        int alikeAhead(int one, int other) {
            int most = Math.min(one, other);
            int alike = 0;
            while (alike < most && letterAt(one - 1 - alike) == letterAt(other - 1 - alike)) {
                alike++;
            }
            return alike;
        }
    }

    /** Periods of factors; a border is what is left of a factor without a period. */
    private static final class Periods {
        /** 0 for the empty factor. */
        static int least(Word word, int from, int to) {
            int size = to - from;
            for (int period = 1; period < size; period++) {
                if (isPeriod(word, from, to, period)) {
                    return period;
                }
            }
            return size;
        }

        static int longestBorder(Word word, int from, int to) {
            return to - from - least(word, from, to);
        }

        static int rankedBorder(Word word, int letters, int rank) {
            int longer = 0;
            for (int period = 1; period < letters; period++) {
                if (isPeriod(word, 0, letters, period)) {
                    if (longer == rank) {
                        return letters - period;
                    }
                    longer++;
                }
            }
            return NONE;
        }

        /** If a factor is a power at all, it is one of its first letters up to its least period. */
        static boolean isPrimitive(Word word, int from, int to) {
            int size = to - from;
            int period = least(word, from, to);
            return period <= 0 || period == size || size % period != 0;
        }

        static int hundredfoldPower(Word word, int from, int to) {
            int period = least(word, from, to);
            return period > 0 ? 100 * (to - from) / period : 0;
        }

        private static boolean isPeriod(Word word, int from, int to, int period) {
            for (int place = from; place + period < to; place++) {
                if (word.letterAt(place) != word.letterAt(place + period)) {
                    return false;
                }
            }
            return true;
        }
    }

    /** Factors by where they end; a factor is told here by one place behind it and its size. */
    private static final class Ends {
        static int howMany(Word word, int to, int size) {
            int many = 0;
            for (int end = 1; end <= word.length(); end++) {
                if (word.alikeAhead(to, end) >= size) {
                    many++;
                }
            }
            return many;
        }

        static int first(Word word, int to, int size) {
            int first = to;
            for (int end = to - 1; end >= size; end--) {
                if (word.alikeAhead(to, end) >= size) {
                    first = end;
                }
            }
            return first;
        }

        static int last(Word word, int to, int size) {
            int last = to;
            for (int end = to + 1; end <= word.length(); end++) {
                if (word.alikeAhead(to, end) >= size) {
                    last = end;
                }
            }
            return last;
        }

        /** The factor grows ahead as long as it is the same at all of its ends. */
        static int longestOfClass(Word word, int to, int size) {
            int longest = to;
            for (int end = 1; end <= word.length(); end++) {
                int alike = word.alikeAhead(to, end);
                if (alike >= size) {
                    longest = Math.min(longest, alike);
                }
            }
            return longest;
        }

        static int shortestOfClass(Word word, int to, int size) {
            return longestOfLink(word, to, size) + 1;
        }

        /** The longest end of the factor that has one end more: it can't grow without losing that. */
        static int longestOfLink(Word word, int to, int size) {
            int longest = 0;
            for (int end = 1; end <= word.length(); end++) {
                int alike = word.alikeAhead(to, end);
                if (alike < size) {
                    longest = Math.max(longest, alike);
                }
            }
            return longest;
        }

        /** The longest factor that ends at a place and at an earlier one, too. */
        static int longestKnown(Word word, int to) {
            int longest = 0;
            for (int end = 1; end < to; end++) {
                longest = Math.max(longest, word.alikeAhead(to, end));
            }
            return longest;
        }

        static int longestTwice(Word word) {
            int longest = 0;
            for (int end = 1; end <= word.length(); end++) {
                longest = Math.max(longest, longestKnown(word, end));
            }
            return longest;
        }

        /** How many factors end at a place that end at no earlier one. */
        static int endingFirstAt(Word word, int to) {
            return to - longestKnown(word, to);
        }

        static int unlikeFactors(Word word, int letters) {
            int many = 0;
            for (int end = 1; end <= letters; end++) {
                many += endingFirstAt(word, end);
            }
            return many;
        }

        static int classes(Word word) {
            int many = 0;
            for (int end = 1; end <= word.length(); end++) {
                many += classesEndingFirstAt(word, end);
            }
            return many;
        }

        /**
         * Each class is counted by the size of its longest factor: the whole beginning of the
         * word up to the place, or as much as ends at a later place, too.
         */
        private static int classesEndingFirstAt(Word word, int to) {
            int known = longestKnown(word, to);
            long sizes = 1L << to;
            for (int end = to + 1; end <= word.length(); end++) {
                int alike = word.alikeAhead(to, end);
                if (alike > known) {
                    sizes |= 1L << alike;
                }
            }
            return Long.bitCount(sizes);
        }
    }

    /** Suffixes in the order of words. */
    private static final class Suffixes {
        static int rank(Word word, int place) {
            int ahead = 0;
            for (int other = 0; other < word.length(); other++) {
                if (other != place && isAhead(word, other, place)) {
                    ahead++;
                }
            }
            return ahead;
        }

        static int placeOf(Word word, int rank) {
            for (int place = 0; place < word.length(); place++) {
                if (rank(word, place) == rank) {
                    return place;
                }
            }
            return NONE;
        }

        /** Behind the word stands no letter, which is less than each letter: so a shorter suffix comes ahead. */
        private static boolean isAhead(Word word, int one, int other) {
            int alike = word.alikeFrom(one, other);
            return word.letterAt(one + alike) < word.letterAt(other + alike);
        }
    }

    /** Squares, told by the place from which they go, and their half. */
    private static final class Squares {
        static int total(Word word) {
            int many = 0;
            for (int to = 2; to <= word.length(); to++) {
                many += endingAt(word, to);
            }
            return many;
        }

        static int endingAt(Word word, int to) {
            int many = 0;
            for (int half = 1; 2 * half <= to; half++) {
                if (isSquare(word, to - 2 * half, half)) {
                    many++;
                }
            }
            return many;
        }

        static int unlikeTotal(Word word) {
            int many = 0;
            for (int from = 0; from < word.length(); from++) {
                for (int half = 1; from + 2 * half <= word.length(); half++) {
                    if (isSquare(word, from, half) && isNew(word, from, 2 * half)) {
                        many++;
                    }
                }
            }
            return many;
        }

        static int ranked(Word word, int rank, int what) {
            int ahead = 0;
            for (int from = 0; from < word.length(); from++) {
                for (int half = 1; from + 2 * half <= word.length(); half++) {
                    if (isSquare(word, from, half)) {
                        if (ahead == rank) {
                            return what == 0 ? from : half;
                        }
                        ahead++;
                    }
                }
            }
            return NONE;
        }

        private static boolean isSquare(Word word, int from, int half) {
            return word.alikeFrom(from, from + half) >= half;
        }

        private static boolean isNew(Word word, int from, int size) {
            for (int earlier = 0; earlier < from; earlier++) {
                if (word.alikeFrom(earlier, from) >= size) {
                    return false;
                }
            }
            return true;
        }
    }

    /** Runs, told by the place from which they go, and their period: two runs never share both. */
    private static final class Runs {
        static int total(Word word) {
            int many = 0;
            for (int from = 0; from < word.length(); from++) {
                for (int period = 1; from + 2 * period <= word.length(); period++) {
                    if (endOf(word, from, period) != NO_RUN) {
                        many++;
                    }
                }
            }
            return many;
        }

        static int over(Word word, int place) {
            int many = 0;
            for (int from = 0; from <= place; from++) {
                for (int period = 1; from + 2 * period <= word.length(); period++) {
                    if (endOf(word, from, period) > place) {
                        many++;
                    }
                }
            }
            return many;
        }

        static int ranked(Word word, int rank, int what) {
            int ahead = 0;
            for (int from = 0; from < word.length(); from++) {
                for (int period = 1; from + 2 * period <= word.length(); period++) {
                    int to = endOf(word, from, period);
                    if (to != NO_RUN) {
                        if (ahead == rank) {
                            return told(word, from, to, period, what);
                        }
                        ahead++;
                    }
                }
            }
            return NONE;
        }

        private static int told(Word word, int from, int to, int period, int what) {
            switch (what) {
                case 0:
                    return from;
                case 1:
                    return to;
                case 2:
                    return period;
                case 3:
                    return rootOf(word, from, to, period);
                default:
                    return to - from - 2 * period + 1;
            }
        }

        private static int endOf(Word word, int from, int period) {
            if (from > 0 && word.letterAt(from - 1) == word.letterAt(from - 1 + period)) {
                return NO_RUN;
            }
            int to = from + period + word.alikeFrom(from, from + period);
            boolean isRun = to - from >= 2 * period && Periods.least(word, from, to) == period;
            return isRun ? to : NO_RUN;
        }

        private static int rootOf(Word word, int from, int to, int period) {
            int root = from;
            for (int place = from + 1; place + period <= to; place++) {
                int alike = word.alikeFrom(place, root);
                if (alike < period && word.letterAt(place + alike) < word.letterAt(root + alike)) {
                    root = place;
                }
            }
            return root;
        }
    }

    /** The latest states, in a ring, so that the oldest one's row is the next to be written. */
    private static final class History {
        private final Word[] states = new Word[MOST_STATES];
        private int next = 0;
        private int held = 0;

        History() {
            for (int row = 0; row < states.length; row++) {
                states[row] = new Word();
            }
        }

        int size() {
            return held;
        }

        void record(Word word) {
            Word state = stateAt(next);
            if (state != null) {
                state.copyFrom(word);
                next = next + 1 < states.length ? next + 1 : 0;
                held = Math.min(held + 1, states.length);
            }
        }

        void moveLatestInto(Word word) {
            int latest = next > 0 ? next - 1 : states.length - 1;
            Word state = stateAt(latest);
            if (held > 0 && state != null) {
                word.copyFrom(state);
                next = latest;
                held--;
            }
        }

        private Word stateAt(int row) {
            return row >= 0 && row < states.length ? states[row] : null;
        }
    }

    /** The characters that are typed. */
    private static final class Text {
        private final char[] characters = new char[MOST_CHARACTERS];
        private int length = 0;

        int length() {
            return length;
        }

        boolean isFull() {
            return length >= MOST_CHARACTERS;
        }

        void clear() {
            length = 0;
        }

        void append(char character) {
            if (length >= 0 && length < characters.length) {
                characters[length] = character;
                length++;
            }
        }

        /** A blank, which no word allows, where there is none. */
        char characterAt(int index) {
            return index >= 0 && index < length && index < characters.length ? characters[index] : ' ';
        }
    }

    /** Reads the word of a text, piece by piece. */
    private static final class Reader {
        private final Word read = new Word();
        private int pieceFrom = 0;
        private boolean inGroup = false;
        private boolean behindPiece = false;

        Word word() {
            return read;
        }

        /** The fault of the text, or NO_FAULT; then word() is its word. */
        int read(Text text) {
            read.clear();
            pieceFrom = 0;
            inGroup = false;
            behindPiece = false;
            for (int index = 0; index < text.length(); index++) {
                if (!takes(text.characterAt(index))) {
                    return index;
                }
            }
            return inGroup || read.length() == 0 ? text.length() : NO_FAULT;
        }

        private boolean takes(char character) {
            if (character >= 'a' && character <= 'z') {
                return takesLetter(character - 'a');
            }
            if (character >= '2' && character <= '9') {
                return takesTimes(character - '0');
            }
            if (character == '(') {
                return opensGroup();
            }
            return character == ')' && closesGroup();
        }

        private boolean takesLetter(int letter) {
            if (read.isFull()) {
                return false;
            }
            if (!inGroup) {
                pieceFrom = read.length();
                behindPiece = true;
            }
            read.append(letter);
            return true;
        }

        private boolean takesTimes(int times) {
            int pieceTo = read.length();
            int size = pieceTo - pieceFrom;
            if (!behindPiece || pieceTo + (times - 1) * size > MOST_LETTERS) {
                return false;
            }
            for (int time = 1; time < times; time++) {
                read.appendFactor(read, pieceFrom, pieceTo);
            }
            behindPiece = false;
            return true;
        }

        private boolean opensGroup() {
            if (inGroup) {
                return false;
            }
            pieceFrom = read.length();
            inGroup = true;
            behindPiece = false;
            return true;
        }

        private boolean closesGroup() {
            if (!inGroup || read.length() == pieceFrom) {
                return false;
            }
            inGroup = false;
            behindPiece = true;
            return true;
        }
    }
}
