/**
 * Words that grow by putting a word in the place of each letter: rules for four letters, words that
 * are grown in steps and cut at a length, how often letters and pieces come, where a piece comes
 * back, the words between its returns and the row that these make, pieces that can go on in more
 * than one way, how balanced a word is, repetitions and the greatest of them as fractions, mirrored
 * pieces, rules that are composed and shifted, growth and powers of rules, rules and pieces that are
 * read from texts with the places of faults, undo and a snapshot.
 *
 * <p>An object is used for at most 512 calls after it has been made. Letters a to d are told as 0 to
 * 3, sets of letters as bits: 1 for a, 2 for b, 4 for c, 8 for d. A call that returns an error or
 * NONE changes nothing.
 */
public final class MorphWords {
    /** There is no such letter or place. */
    public static final int UNKNOWN = -1;
    /** Another argument is out of range. */
    public static final int BAD_VALUE = -2;
    /** There is no more room. */
    public static final int FULL = -3;
    /** This is not possible. */
    public static final int NOT_POSSIBLE = -4;
    /** There is no such thing; not an error. */
    public static final int NONE = -5;

    private static final int LETTERS = 4;
    private static final int IMAGE_ROOM = 8;
    private static final int WORD_ROOM = 300;
    private static final int PIECE_ROOM = 20;
    private static final int TEXT_ROOM = 60;
    private static final int HISTORY_ROOM = 4;
    private static final int MOST_GROWTHS = 20;
    private static final int MOST_POWER = 30;
    private static final int MOST_MIXING = 16;
    private static final int MOST_COUNTED = 1000000;
    /** What a fault's place is taken from, so that no fault looks like one of the errors above. */
    private static final int FAULTS_FROM = -100;
    private static final int NO_FAULT = -1;
    private static final int NO_LETTER = -1;

    private final State now = new State();
    private final State snapshot = new State();
    private boolean kept = false;
    private final History history = new History();
    private final Text text = new Text();

    // What follows is room to work in, made once: no call makes an object.
    private final Rule nextRule = new Rule();
    private final Letters nextWord = new Letters(WORD_ROOM);
    private final Letters grownWord = new Letters(WORD_ROOM);
    private final Letters nextPiece = new Letters(PIECE_ROOM);
    private final Powers powers = new Powers();
    private final PieceTable pieceTable = new PieceTable();
    private final GreatestRun greatestRun = new GreatestRun();
    private final LongestMirror longestMirror = new LongestMirror();
    private final ReturnTable returnTable = new ReturnTable();

    /** Creates the word a, with each letter as its own image. */
    public MorphWords() {
    }

    // ---- rules

    /**
     * Changes the rule by the text, which stays. This is an act.
     *
     * @return how many parts there are in the text; -100 minus the fault of the text, read as a
     *     rule, if it has one (which is an error); NONE if the rule is so already
     */
    public int readRule() {
        nextRule.become(now.images);
        int fault = text.readInto(nextRule);
        if (fault != NO_FAULT) {
            return FAULTS_FROM - fault;
        }
        return takeNextRule() ? text.parts() : NONE;
    }

    /**
     * Composes the rule with itself: the image of each letter becomes the image of its image. This
     * is an act.
     *
     * @return the letters of all images together then; FULL if any image would have more than 8
     *     letters; NONE if the rule is so already
     */
    public int square() {
        if (!nextRule.becomeSquareOf(now.images)) {
            return FULL;
        }
        return takeNextRule() ? now.images.total() : NONE;
    }

    /**
     * Shifts the rule to the left or to the right. This is an act.
     *
     * @param right whether it is shifted to the right
     * @return the number of the letter that is taken and put; NOT_POSSIBLE if not all images begin
     *     (or end) with the same letter; NONE if the rule is so already
     */
    public int shift(boolean right) {
        int taken = now.images.commonEnd(right);
        if (taken == NO_LETTER) {
            return NOT_POSSIBLE;
        }
        nextRule.become(now.images);
        nextRule.rotate(right);
        return takeNextRule() ? taken : NONE;
    }

    /**
     * Exchanges two letters everywhere: their images, and themselves in all images and in the word
     * (not in the piece that is looked for). This is an act.
     *
     * @param one 0 to 3
     * @param other 0 to 3
     * @return how many letters of the word become others (also 0); UNKNOWN (one or other); NONE if
     *     both are the same
     */
    public int swap(int one, int other) {
        if (!isLetter(one) || !isLetter(other)) {
            return UNKNOWN;
        }
        if (one == other) {
            return NONE;
        }
        int changed = now.word.countOf(one) + now.word.countOf(other);
        history.record(now);
        now.images.exchange(one, other);
        now.word.exchange(one, other);
        return changed;
    }

    // ---- the word

    /**
     * Makes the word a single letter. This is an act.
     *
     * @param letter 0 to 3
     * @return the length that the word had; UNKNOWN; NONE if the word is just this letter already
     */
    public int start(int letter) {
        if (!isLetter(letter)) {
            return UNKNOWN;
        }
        int had = now.word.length();
        nextWord.clear();
        nextWord.add(letter);
        return takeNextWord() ? had : NONE;
    }

    /**
     * Grows the word some times. This is an act.
     *
     * @param times 1 to 20
     * @return its length then; BAD_VALUE; NONE if the word is the same behind all these times
     */
    public int grow(int times) {
        if (times < 1 || times > MOST_GROWTHS) {
            return BAD_VALUE;
        }
        nextWord.become(now.word);
        for (int time = 0; time < times; time++) {
            grownWord.clear();
            now.images.addImage(nextWord, grownWord);
            nextWord.become(grownWord);
        }
        return takeNextWord() ? now.word.length() : NONE;
    }

    /**
     * Cuts the word: it keeps its first letters. This is an act.
     *
     * @param length 1 to the length of the word
     * @return how many letters go; BAD_VALUE; NONE if none does
     */
    public int cut(int length) {
        int had = now.word.length();
        if (length < 1 || length > had) {
            return BAD_VALUE;
        }
        nextWord.become(now.word);
        nextWord.shorten(length);
        return takeNextWord() ? had - length : NONE;
    }

    /**
     * Makes the word its row of returns, each return as its number (0 as a, and so on). This is an
     * act.
     *
     * @return the length of the word then; NOT_POSSIBLE if no piece is looked for, it comes less
     *     than twice, or there are more than 4 different returns; NONE if the word is the same then
     */
    public int derive() {
        returnTable.find(now.word, now.piece);
        if (returnTable.rowLength() < 1 || returnTable.different() > LETTERS) {
            return NOT_POSSIBLE;
        }
        nextWord.clear();
        for (int place = 0; place < returnTable.rowLength(); place++) {
            nextWord.add(returnTable.numberAt(place));
        }
        return takeNextWord() ? now.word.length() : NONE;
    }

    // ---- the piece

    /**
     * Lets the piece of the text, which stays, be looked for (whether it comes or not). This is an
     * act.
     *
     * @return how often it comes; -100 minus the fault of the text, read as a piece, if it has one
     *     (which is an error); NONE if it is looked for already
     */
    public int look() {
        int fault = text.readInto(nextPiece);
        if (fault != NO_FAULT) {
            return FAULTS_FROM - fault;
        }
        if (nextPiece.same(now.piece)) {
            return NONE;
        }
        history.record(now);
        now.piece.become(nextPiece);
        returnTable.find(now.word, now.piece);
        return returnTable.found();
    }

    // ---- texts

    /**
     * Types a character behind the text.
     *
     * @param character any character
     * @return the length of the text then; FULL if it has 60 characters
     */
    public int type(char character) {
        return text.add(character) ? text.length() : FULL;
    }

    /**
     * Empties the text.
     *
     * @return the length that it had
     */
    public int clearText() {
        int had = text.length();
        text.clear();
        return had;
    }

    // ---- history

    /**
     * Removes and restores the latest state of the history.
     *
     * @return the number of states that are left; NONE if the history is empty
     */
    public int undo() {
        return history.takeBack(now) ? history.held() : NONE;
    }

    /**
     * Takes a snapshot of the state, in place of the one that was.
     *
     * @return the length of the word
     */
    public int keep() {
        snapshot.become(now);
        kept = true;
        return now.word.length();
    }

    /**
     * Restores the state of the snapshot, which stays. This is an act.
     *
     * @return the length of the word then; NONE if there is no snapshot
     */
    public int restore() {
        if (!kept) {
            return NONE;
        }
        history.record(now);
        now.become(snapshot);
        return now.word.length();
    }

    // ---- rules, told

    /**
     * Tells a letter of an image.
     *
     * @param letter 0 to 3
     * @param place a place in its image, from 0
     * @return the number of the letter there; UNKNOWN (letter or place)
     */
    public int image(int letter, int place) {
        int there = now.images.imageOf(letter).letterAt(place);
        return there == NO_LETTER ? UNKNOWN : there;
    }

    /**
     * Tells of the image of a letter.
     *
     * @param letter 0 to 3
     * @param what 0 for the length of its image, 1 for the letters in its image (as bits), 2 for the
     *     letters that can be reached from it (itself too, as bits), 3 for whether its image begins
     *     with itself and has at least 2 letters (1, otherwise 0)
     * @return the number; UNKNOWN; BAD_VALUE
     */
    public int rule(int letter, int what) {
        if (!isLetter(letter)) {
            return UNKNOWN;
        }
        Letters image = now.images.imageOf(letter);
        switch (what) {
            case 0:
                return image.length();
            case 1:
                return image.bits();
            case 2:
                return now.images.reachedFrom(letter);
            case 3:
                return image.letterAt(0) == letter && image.length() >= 2 ? 1 : 0;
            default:
                return BAD_VALUE;
        }
    }

    /**
     * Tells the length of an n-th image.
     *
     * @param letter 0 to 3
     * @param times 0 to 30
     * @return the length of its n-th image, for n as told; UNKNOWN; BAD_VALUE; FULL if it is more
     *     than 1000000
     */
    public int lengthBehind(int letter, int times) {
        if (!isLetter(letter)) {
            return UNKNOWN;
        }
        if (times < 0 || times > MOST_POWER) {
            return BAD_VALUE;
        }
        return powers.find(now.images, letter, times) ? powers.total() : FULL;
    }

    /**
     * Tells how often a letter comes in an n-th image.
     *
     * @param letter 0 to 3
     * @param other 0 to 3
     * @param times 0 to 30
     * @return how often the other letter comes in the n-th image of the first one, for n as told;
     *     UNKNOWN (letter or other); BAD_VALUE; FULL if the n-th image has more than 1000000 letters
     */
    public int countBehind(int letter, int other, int times) {
        if (!isLetter(letter) || !isLetter(other)) {
            return UNKNOWN;
        }
        if (times < 0 || times > MOST_POWER) {
            return BAD_VALUE;
        }
        return powers.find(now.images, letter, times) ? powers.countOf(other) : FULL;
    }

    /**
     * Tells whether the rule is mixing, and by what.
     *
     * @return the least n, from 1 to 16, by which the rule is mixing; NONE if it is not mixing
     */
    public int mixing() {
        for (int times = 1; times <= MOST_MIXING; times++) {
            if (now.images.mixesBy(times)) {
                return times;
            }
        }
        return NONE;
    }

    // ---- the word, told

    /**
     * Tells a letter of the word.
     *
     * @param place a place of the word
     * @return the number of its letter; UNKNOWN
     */
    public int at(int place) {
        int there = now.word.letterAt(place);
        return there == NO_LETTER ? UNKNOWN : there;
    }

    /**
     * Tells how many different pieces of a length there are.
     *
     * @param length 1 to 20
     * @param what 0 for how many different pieces of this length there are, 1 for how many of these
     *     are followed by at least two different letters (at different places), 2 for how many are
     *     so behind at least two different letters, 3 for how many are mirrored
     * @return the number; BAD_VALUE
     */
    public int pieces(int length, int what) {
        if (length < 1 || length > PIECE_ROOM || what < 0 || what > 3) {
            return BAD_VALUE;
        }
        return pieceTable.tell(now.word, length, what);
    }

    /**
     * Tells how balanced the word is: of all pieces of a length, the greatest number of times that a
     * letter comes in one, less the least number.
     *
     * @param letter 0 to 3
     * @param length 1 to 300
     * @return the difference; UNKNOWN; BAD_VALUE; NONE if the word is shorter than length
     */
    public int balance(int letter, int length) {
        if (!isLetter(letter)) {
            return UNKNOWN;
        }
        if (length < 1 || length > WORD_ROOM) {
            return BAD_VALUE;
        }
        return length > now.word.length() ? NONE : now.word.imbalance(letter, length);
    }

    /**
     * Tells how often a letter comes, as a share of the whole word, in lowest terms (0 / 1 if it
     * does not come).
     *
     * @param letter 0 to 3
     * @param what 0 for the upper number, 1 for the lower number
     * @return the number; UNKNOWN; BAD_VALUE
     */
    public int share(int letter, int what) {
        if (!isLetter(letter)) {
            return UNKNOWN;
        }
        int times = now.word.countOf(letter);
        int length = now.word.length();
        switch (what) {
            case 0:
                return times / commonDivisor(times, length);
            case 1:
                return length / commonDivisor(times, length);
            default:
                return BAD_VALUE;
        }
    }

    /**
     * Tells of the greatest run.
     *
     * @param what 0 for its period, 1 for its first place, 2 for its length, 3 and 4 for the upper
     *     and the lower number of its exponent in lowest terms
     * @return the number; BAD_VALUE
     */
    public int run(int what) {
        if (what < 0 || what > 4) {
            return BAD_VALUE;
        }
        greatestRun.find(now.word);
        int period = greatestRun.period();
        int length = greatestRun.length();
        switch (what) {
            case 0:
                return period;
            case 1:
                return greatestRun.place();
            case 2:
                return length;
            case 3:
                return length / commonDivisor(length, period);
            default:
                return period / commonDivisor(length, period);
        }
    }

    /**
     * Tells of the longest mirrored piece, of several the first one.
     *
     * @param what 0 for its place, 1 for its length
     * @return the number; BAD_VALUE
     */
    public int mirrored(int what) {
        if (what < 0 || what > 1) {
            return BAD_VALUE;
        }
        longestMirror.find(now.word);
        return what == 0 ? longestMirror.place() : longestMirror.length();
    }

    // ---- the piece, told

    /**
     * Tells where the piece comes.
     *
     * @param rank a rank among the places where the piece comes, from 0
     * @return the place; BAD_VALUE if rank is negative; NOT_POSSIBLE if no piece is looked for; NONE
     *     if it does not come so often
     */
    public int comes(int rank) {
        if (rank < 0) {
            return BAD_VALUE;
        }
        if (!now.hasPiece()) {
            return NOT_POSSIBLE;
        }
        returnTable.find(now.word, now.piece);
        return rank < returnTable.found() ? returnTable.placeOf(rank) : NONE;
    }

    /**
     * Tells of a return.
     *
     * @param number a return, by its number
     * @param what 0 for its length, 1 for the first place where it begins, 2 for how often it comes
     *     in the row of returns
     * @return the number; BAD_VALUE (number is negative, or what); NOT_POSSIBLE if no piece is
     *     looked for; NONE if there are not so many
     */
    public int returns(int number, int what) {
        if (number < 0 || what < 0 || what > 2) {
            return BAD_VALUE;
        }
        if (!now.hasPiece()) {
            return NOT_POSSIBLE;
        }
        returnTable.find(now.word, now.piece);
        if (number >= returnTable.different()) {
            return NONE;
        }
        switch (what) {
            case 0:
                return returnTable.lengthOf(number);
            case 1:
                return returnTable.firstPlaceOf(number);
            default:
                return returnTable.timesOf(number);
        }
    }

    /**
     * Tells a number of the row of returns.
     *
     * @param place a place in the row of returns, from 0
     * @return the number there; BAD_VALUE if place is negative; NOT_POSSIBLE if no piece is looked
     *     for; NONE if the row is not so long
     */
    public int row(int place) {
        if (place < 0) {
            return BAD_VALUE;
        }
        if (!now.hasPiece()) {
            return NOT_POSSIBLE;
        }
        returnTable.find(now.word, now.piece);
        return place < returnTable.rowLength() ? returnTable.numberAt(place) : NONE;
    }

    /**
     * Tells how many there are of several things.
     *
     * @param what 0 for the length of the word, 1 for the letters in it (as bits), 2 for the length
     *     of the piece that is looked for (0 if none is), 3 for how often it comes (NONE if none is
     *     looked for), 4 for how many different returns there are (NONE likewise), 5 for the letters
     *     of all images together, 6 for the states in the history, 7 for the length of the text
     * @return the number; BAD_VALUE
     */
    public int count(int what) {
        switch (what) {
            case 0:
                return now.word.length();
            case 1:
                return now.word.bits();
            case 2:
                return now.piece.length();
            case 3:
            case 4:
                return countReturns(what == 4);
            case 5:
                return now.images.total();
            case 6:
                return history.held();
            case 7:
                return text.length();
            default:
                return BAD_VALUE;
        }
    }

    // ---- helpers

    private int countReturns(boolean different) {
        if (!now.hasPiece()) {
            return NONE;
        }
        returnTable.find(now.word, now.piece);
        return different ? returnTable.different() : returnTable.found();
    }

    /** Lets the rule that was worked out be the rule; answers whether it is another one. */
    private boolean takeNextRule() {
        if (nextRule.same(now.images)) {
            return false;
        }
        history.record(now);
        now.images.become(nextRule);
        return true;
    }

    /** Lets the word that was worked out be the word; answers whether it is another one. */
    private boolean takeNextWord() {
        if (nextWord.same(now.word)) {
            return false;
        }
        history.record(now);
        now.word.become(nextWord);
        return true;
    }

    private static boolean isLetter(int number) {
        return number >= 0 && number < LETTERS;
    }

    private static boolean hasLetter(int bits, int letter) {
        return (bits & (1 << letter)) != 0;
    }

    /** The greatest common divisor of two numbers from 0 on; 1 if both are 0, so it can divide. */
    private static int commonDivisor(int one, int other) {
        int high = one;
        int low = other;
        // Two steps halve the greater number at least, so 64 steps are enough for every int.
        for (int step = 0; step < 64 && low != 0; step++) {
            int rest = high % low;
            high = low;
            low = rest;
        }
        return Math.max(high, 1);
    }

    /** A row of letters, told as 0 to 3, that has room for so many letters as its array. */
    private static final class Letters {
        private final int[] numbers;
        private int length = 0;

        Letters(int room) {
            numbers = new int[Math.max(room, 0)];
        }

        int length() {
            return length;
        }

        /** The letter at a place; NO_LETTER ahead of the first one and behind the last one. */
        int letterAt(int place) {
            return place >= 0 && place < length ? numbers[place] : NO_LETTER;
        }

        void clear() {
            length = 0;
        }

        /** Puts a letter behind the others; answers whether there was room. */
        boolean add(int letter) {
            if (!isLetter(letter) || length >= numbers.length) {
                return false;
            }
            numbers[length] = letter;
            length++;
            return true;
        }

        /** Puts as many letters of another row behind its own as there is room for. */
        boolean addAll(Letters other) {
            for (int place = 0; place < other.length; place++) {
                if (!add(other.letterAt(place))) {
                    return false;
                }
            }
            return true;
        }

        void shorten(int toLength) {
            if (toLength >= 0 && toLength < length) {
                length = toLength;
            }
        }

        void become(Letters other) {
            int copied = Math.min(other.length, numbers.length);
            System.arraycopy(other.numbers, 0, numbers, 0, copied);
            length = copied;
        }

        boolean same(Letters other) {
            return length == other.length && hasFrom(0, other);
        }

        /** Whether another row stands in this one from a place on. */
        boolean hasFrom(int from, Letters other) {
            for (int place = 0; place < other.length; place++) {
                if (letterAt(from + place) != other.letterAt(place)) {
                    return false;
                }
            }
            return true;
        }

        /** Whether so many letters are the same from one place on and from another place on. */
        boolean repeats(int one, int other, int span) {
            for (int place = 0; place < span; place++) {
                if (letterAt(one + place) != letterAt(other + place)) {
                    return false;
                }
            }
            return true;
        }

        boolean isMirrored(int from, int span) {
            for (int place = 0; place < span / 2; place++) {
                if (letterAt(from + place) != letterAt(from + span - 1 - place)) {
                    return false;
                }
            }
            return true;
        }

        int bits() {
            int bits = 0;
            for (int place = 0; place < length; place++) {
                bits |= 1 << letterAt(place);
            }
            return bits;
        }

        int countOf(int letter) {
            int times = 0;
            for (int place = 0; place < length; place++) {
                if (letterAt(place) == letter) {
                    times++;
                }
            }
            return times;
        }

        void exchange(int one, int other) {
            for (int place = 0; place < length && place < numbers.length; place++) {
                if (numbers[place] == one) {
                    numbers[place] = other;
                } else if (numbers[place] == other) {
                    numbers[place] = one;
                }
            }
        }

        /** Takes the first letter and puts it at the end, or the other way round. */
        void rotate(boolean right) {
            if (length < 2 || length > numbers.length) {
                return;
            }
            if (right) {
                int last = numbers[length - 1];
                System.arraycopy(numbers, 0, numbers, 1, length - 1);
                numbers[0] = last;
            } else {
                int first = numbers[0];
                System.arraycopy(numbers, 1, numbers, 0, length - 1);
                numbers[length - 1] = first;
            }
        }

        /** Of all pieces of a length, how often the letter comes at most, less at least. */
        int imbalance(int letter, int span) {
            int times = 0;
            int most = 0;
            int least = span;
            for (int place = 0; place < length; place++) {
                if (letterAt(place) == letter) {
                    times++;
                }
                if (letterAt(place - span) == letter) {
                    times--;
                }
                if (place >= span - 1) {
                    most = Math.max(most, times);
                    least = Math.min(least, times);
                }
            }
            return most - least;
        }
    }

    /** An image for each letter. */
    private static final class Rule {
        private final Letters[] images = new Letters[LETTERS];
        /** The image of what is no letter: an empty row that has no room either. */
        private final Letters nothing = new Letters(0);

        Rule() {
            for (int letter = 0; letter < LETTERS; letter++) {
                Letters image = new Letters(IMAGE_ROOM);
                image.add(letter);
                images[letter] = image;
            }
        }

        Letters imageOf(int letter) {
            return isLetter(letter) ? images[letter] : nothing;
        }

        void become(Rule other) {
            for (int letter = 0; letter < LETTERS; letter++) {
                imageOf(letter).become(other.imageOf(letter));
            }
        }

        boolean same(Rule other) {
            for (int letter = 0; letter < LETTERS; letter++) {
                if (!imageOf(letter).same(other.imageOf(letter))) {
                    return false;
                }
            }
            return true;
        }

        /** The letters of all images together. */
        int total() {
            int total = 0;
            for (int letter = 0; letter < LETTERS; letter++) {
                total += imageOf(letter).length();
            }
            return total;
        }

        /** Puts the image of a word behind a row; answers whether there was room for all of it. */
        boolean addImage(Letters word, Letters into) {
            for (int place = 0; place < word.length(); place++) {
                if (!into.addAll(imageOf(word.letterAt(place)))) {
                    return false;
                }
            }
            return true;
        }

        /** Becomes another rule's square; answers whether there was room for all images. */
        boolean becomeSquareOf(Rule other) {
            for (int letter = 0; letter < LETTERS; letter++) {
                Letters image = imageOf(letter);
                image.clear();
                if (!other.addImage(other.imageOf(letter), image)) {
                    return false;
                }
            }
            return true;
        }

        /** The letter that all images begin (or end) with; NO_LETTER if they do not. */
        int commonEnd(boolean right) {
            int common = endOf(0, right);
            for (int letter = 1; letter < LETTERS; letter++) {
                if (endOf(letter, right) != common) {
                    return NO_LETTER;
                }
            }
            return common;
        }

        private int endOf(int letter, boolean right) {
            Letters image = imageOf(letter);
            return image.letterAt(right ? image.length() - 1 : 0);
        }

        void rotate(boolean right) {
            for (int letter = 0; letter < LETTERS; letter++) {
                imageOf(letter).rotate(right);
            }
        }

        void exchange(int one, int other) {
            if (!isLetter(one) || !isLetter(other)) {
                return;
            }
            for (int letter = 0; letter < LETTERS; letter++) {
                imageOf(letter).exchange(one, other);
            }
            Letters image = images[one];
            images[one] = images[other];
            images[other] = image;
        }

        /** All letters to which one of these letters leads. */
        private int ledToFrom(int bits) {
            int led = 0;
            for (int letter = 0; letter < LETTERS; letter++) {
                if (hasLetter(bits, letter)) {
                    led |= imageOf(letter).bits();
                }
            }
            return led;
        }

        int reachedFrom(int letter) {
            int reached = 1 << letter;
            // A shortest way to a letter goes through each letter once at most.
            for (int step = 0; step < LETTERS; step++) {
                reached |= ledToFrom(reached);
            }
            return reached;
        }

        boolean mixesBy(int times) {
            int reached = reachedFrom(0);
            for (int letter = 0; letter < LETTERS; letter++) {
                int missing = reached & ~lettersBehind(letter, times);
                if (hasLetter(reached, letter) && missing != 0) {
                    return false;
                }
            }
            return true;
        }

        /** The letters in an n-th image. */
        private int lettersBehind(int letter, int times) {
            int bits = 1 << letter;
            for (int time = 0; time < times; time++) {
                bits = ledToFrom(bits);
            }
            return bits;
        }
    }

    /** All that undo and the snapshot bring back. */
    private static final class State {
        final Rule images = new Rule();
        final Letters word = new Letters(WORD_ROOM);
        /** The piece that is looked for; empty if none is. */
        final Letters piece = new Letters(PIECE_ROOM);

        State() {
            word.add(0);
        }

        boolean hasPiece() {
            return piece.length() > 0;
        }

        void become(State other) {
            images.become(other.images);
            word.become(other.word);
            piece.become(other.piece);
        }
    }

    /** The states that were, the oldest one first. */
    private static final class History {
        private final State[] states = new State[HISTORY_ROOM];
        private int held = 0;

        History() {
            for (int rank = 0; rank < HISTORY_ROOM; rank++) {
                states[rank] = new State();
            }
        }

        int held() {
            return held;
        }

        void record(State state) {
            if (held >= HISTORY_ROOM) {
                dropOldest();
            }
            states[held].become(state);
            held++;
        }

        private void dropOldest() {
            State oldest = states[0];
            for (int rank = 1; rank < HISTORY_ROOM; rank++) {
                states[rank - 1] = states[rank];
            }
            // The dropped state's object holds the next one that is recorded.
            states[HISTORY_ROOM - 1] = oldest;
            held = HISTORY_ROOM - 1;
        }

        /** Gives the latest state back and forgets it; answers whether there was one. */
        boolean takeBack(State into) {
            if (held < 1) {
                return false;
            }
            held--;
            into.become(states[held]);
            return true;
        }
    }

    /** The text, and how it is read. */
    private static final class Text {
        private static final int LETTER_DUE = 0;
        private static final int EQUALS_DUE = 1;
        private static final int IMAGE_DUE = 2;

        private final char[] characters = new char[TEXT_ROOM];
        private int length = 0;

        int length() {
            return length;
        }

        void clear() {
            length = 0;
        }

        /** Puts a character behind the others; answers whether there was room. */
        boolean add(char character) {
            if (length >= characters.length) {
                return false;
            }
            characters[length] = character;
            length++;
            return true;
        }

        private boolean hasAt(int place, char character) {
            return place >= 0 && place < length && characters[place] == character;
        }

        private int letterAt(int place) {
            if (place < 0 || place >= length) {
                return NO_LETTER;
            }
            int letter = characters[place] - 'a';
            return isLetter(letter) ? letter : NO_LETTER;
        }

        /** How many parts it has, if it is a text of a rule. */
        int parts() {
            int parts = 1;
            for (int place = 0; place < length; place++) {
                if (hasAt(place, ';')) {
                    parts++;
                }
            }
            return parts;
        }

        /** Puts the images that are told into a rule; answers the fault, or NO_FAULT. */
        int readInto(Rule told) {
            int due = LETTER_DUE;
            Letters image = told.imageOf(NO_LETTER);
            for (int place = 0; place < length; place++) {
                int letter = letterAt(place);
                if (due == LETTER_DUE && letter != NO_LETTER) {
                    image = told.imageOf(letter);
                    image.clear();
                    due = EQUALS_DUE;
                } else if (due == EQUALS_DUE && hasAt(place, '=')) {
                    due = IMAGE_DUE;
                } else if (due == IMAGE_DUE && image.length() > 0 && hasAt(place, ';')) {
                    due = LETTER_DUE;
                } else if (due != IMAGE_DUE || !image.add(letter)) {
                    return place;
                }
            }
            return due == IMAGE_DUE && image.length() > 0 ? NO_FAULT : length;
        }

        /** Puts the word that is told into a piece; answers the fault, or NO_FAULT. */
        int readInto(Letters told) {
            told.clear();
            for (int place = 0; place < length; place++) {
                if (!told.add(letterAt(place))) {
                    return place;
                }
            }
            return length > 0 ? NO_FAULT : length;
        }
    }

    /** How often each letter comes in an n-th image. */
    private static final class Powers {
        private final int[] times = new int[LETTERS];
        private final int[] timesThen = new int[LETTERS];

        /** Counts; answers whether the image is not too long to be counted. */
        boolean find(Rule images, int letter, int power) {
            for (int other = 0; other < LETTERS; other++) {
                times[other] = other == letter ? 1 : 0;
            }
            // No image is shorter than the one ahead of it, so one that is too long ends the way.
            for (int step = 0; step < power && total() <= MOST_COUNTED; step++) {
                goOn(images);
            }
            return total() <= MOST_COUNTED;
        }

        private void goOn(Rule images) {
            for (int to = 0; to < LETTERS; to++) {
                timesThen[to] = 0;
                for (int from = 0; from < LETTERS; from++) {
                    timesThen[to] += times[from] * images.imageOf(from).countOf(to);
                }
            }
            System.arraycopy(timesThen, 0, times, 0, LETTERS);
        }

        int total() {
            int total = 0;
            for (int letter = 0; letter < LETTERS; letter++) {
                total += times[letter];
            }
            return total;
        }

        int countOf(int letter) {
            return isLetter(letter) ? times[letter] : 0;
        }
    }

    /** The pieces of one length, each as a number that has two bits for a letter. */
    private static final class PieceTable {
        private final long[] codes = new long[WORD_ROOM];
        private int found = 0;

        int tell(Letters word, int length, int what) {
            fill(word, length);
            int total = 0;
            for (int place = 0; place < found; place++) {
                if (isFirst(place) && isCounted(word, place, length, what)) {
                    total++;
                }
            }
            return total;
        }

        private void fill(Letters word, int length) {
            found = 0;
            long mask = (1L << (2 * length)) - 1;
            long code = 0;
            for (int place = 0; place < word.length(); place++) {
                code = ((code << 2) | word.letterAt(place)) & mask;
                if (place >= length - 1 && found < codes.length) {
                    codes[found] = code;
                    found++;
                }
            }
        }

        private boolean isFirst(int place) {
            for (int earlier = 0; earlier < place; earlier++) {
                if (isSamePiece(earlier, place)) {
                    return false;
                }
            }
            return true;
        }

        private boolean isSamePiece(int one, int other) {
            return isPlace(one) && isPlace(other) && codes[one] == codes[other];
        }

        private boolean isPlace(int place) {
            return place >= 0 && place < found && place < codes.length;
        }

        private boolean isCounted(Letters word, int place, int length, int what) {
            switch (what) {
                case 1:
                    return Integer.bitCount(neighbours(word, place, length)) >= 2;
                case 2:
                    return Integer.bitCount(neighbours(word, place, -1)) >= 2;
                case 3:
                    return word.isMirrored(place, length);
                default:
                    return true;
            }
        }

        /** The letters that stand so far from the places where the piece of a first place comes. */
        private int neighbours(Letters word, int first, int distance) {
            int bits = 0;
            for (int place = first; place < found; place++) {
                int letter = word.letterAt(place + distance);
                if (letter != NO_LETTER && isSamePiece(first, place)) {
                    bits |= 1 << letter;
                }
            }
            return bits;
        }
    }

    /** The greatest run of a word. */
    private static final class GreatestRun {
        private int period = 1;
        private int place = 0;
        private int length = 1;

        void find(Letters word) {
            // The first letter has the exponent 1 at least, and the least period.
            period = 1;
            place = 0;
            length = 1;
            for (int tried = 1; tried < word.length(); tried++) {
                findWithPeriod(word, tried);
            }
        }

        private void findWithPeriod(Letters word, int tried) {
            int same = 0;
            for (int last = tried; last < word.length(); last++) {
                same = word.letterAt(last) == word.letterAt(last - tried) ? same + 1 : 0;
                int reach = tried + same;
                // The exponents are compared multiplied by both periods, so that they stay whole.
                if (reach * period > length * tried) {
                    period = tried;
                    place = last - reach + 1;
                    length = reach;
                }
            }
        }

        int period() {
            return period;
        }

        int place() {
            return place;
        }

        int length() {
            return length;
        }
    }

    /** The longest mirrored piece of a word. */
    private static final class LongestMirror {
        private int place = 0;
        private int length = 0;

        void find(Letters word) {
            place = 0;
            length = 0;
            // A middle is a letter or the gap between two, so it is told in halves of a place.
            for (int middle = 0; middle < 2 * word.length(); middle++) {
                findAround(word, middle / 2, (middle + 1) / 2);
            }
        }

        private void findAround(Letters word, int leftOfMiddle, int rightOfMiddle) {
            int left = leftOfMiddle;
            int right = rightOfMiddle;
            while (left >= 0 && right < word.length()
                && word.letterAt(left) == word.letterAt(right)) {
                left--;
                right++;
            }
            if (right - left - 1 > length) {
                place = left + 1;
                length = right - left - 1;
            }
        }

        int place() {
            return place;
        }

        int length() {
            return length;
        }
    }

    /** Where a piece comes in a word, its returns and their row. */
    private static final class ReturnTable {
        private final int[] places = new int[WORD_ROOM];
        private int found = 0;
        private final int[] numbers = new int[WORD_ROOM];
        /** For each different return, where in the row it comes first. */
        private final int[] firsts = new int[WORD_ROOM];
        private final int[] times = new int[WORD_ROOM];
        private int different = 0;

        void find(Letters word, Letters piece) {
            found = 0;
            different = 0;
            if (piece.length() < 1) {
                return;
            }
            for (int place = 0; place + piece.length() <= word.length(); place++) {
                if (found < places.length && word.hasFrom(place, piece)) {
                    places[found] = place;
                    found++;
                }
            }
            for (int rank = 0; rank < rowLength(); rank++) {
                addReturn(word, rank);
            }
        }

        private void addReturn(Letters word, int rank) {
            int number = 0;
            while (number < different && !isSameReturn(word, firsts[number], rank)) {
                number++;
            }
            if (number >= firsts.length || rank < 0 || rank >= numbers.length) {
                return;
            }
            if (number == different) {
                firsts[number] = rank;
                times[number] = 0;
                different++;
            }
            times[number]++;
            numbers[rank] = number;
        }

        private boolean isSameReturn(Letters word, int one, int other) {
            int span = spanOf(one);
            return span == spanOf(other) && word.repeats(placeOf(one), placeOf(other), span);
        }

        /** How many letters the return has that begins where the piece comes for that time. */
        private int spanOf(int rank) {
            return placeOf(rank + 1) - placeOf(rank);
        }

        /** How often the piece comes. */
        int found() {
            return found;
        }

        int placeOf(int rank) {
            return rank >= 0 && rank < found ? places[rank] : 0;
        }

        int rowLength() {
            return Math.max(found - 1, 0);
        }

        int numberAt(int place) {
            return place >= 0 && place < rowLength() ? numbers[place] : 0;
        }

        int different() {
            return different;
        }

        int lengthOf(int number) {
            return isReturn(number) ? spanOf(firsts[number]) : 0;
        }

        int firstPlaceOf(int number) {
            return isReturn(number) ? placeOf(firsts[number]) : 0;
        }

        int timesOf(int number) {
            return isReturn(number) ? times[number] : 0;
        }

        private boolean isReturn(int number) {
            return number >= 0 && number < different;
        }
    }
}
