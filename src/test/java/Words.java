/** Ways to bring an object into a state and to see what state it is in. */
final class Words {
    private Words() {
    }

    /** The numbers next to those from a least to a most one, and the ints that are farthest from them. */
    static int[] outside(int least, int most) {
        return new int[] {Integer.MIN_VALUE, least - 1, most + 1, Integer.MAX_VALUE};
    }

    /** The answer that tells a fault of the text. */
    static int faultAt(int place) {
        return -100 - place;
    }

    static void type(MorphWords words, String text) {
        words.clearText();
        for (int i = 0; i < text.length(); i++) {
            words.type(text.charAt(i));
        }
    }

    static int read(MorphWords words, String rule) {
        type(words, rule);
        return words.readRule();
    }

    static int look(MorphWords words, String piece) {
        type(words, piece);
        return words.look();
    }

    static MorphWords withRule(String rule) {
        MorphWords words = new MorphWords();
        read(words, rule);
        return words;
    }

    /** An object that has a word of at most 24 letters; its history is free. */
    static MorphWords withWord(String word) {
        MorphWords words = new MorphWords();
        put(words, word);
        return words;
    }

    /** Puts a word of at most 24 letters in place; each letter is its own image then. */
    static void put(MorphWords words, String word) {
        if (word.isEmpty() || word.length() > 24) {
            throw new IllegalArgumentException(word);
        }
        StringBuilder heads = new StringBuilder("a=");
        StringBuilder images = new StringBuilder();
        for (int from = 0; from < word.length(); from += 8) {
            char head = (char) ('b' + from / 8);
            heads.append(head);
            images.append(from == 0 ? "" : ";").append(head).append('=');
            images.append(word, from, Math.min(word.length(), from + 8));
        }
        words.start(0);
        read(words, heads.toString());
        words.grow(1);
        read(words, images.toString());
        words.grow(1);
        read(words, "a=a;b=b;c=c;d=d");
    }

    /** An object that has a rule, and a text typed behind it. */
    static MorphWords withText(String rule, String text) {
        MorphWords words = withRule(rule);
        type(words, text);
        return words;
    }

    /** An object that has a word of at most 24 letters and looks for a piece. */
    static MorphWords withPiece(String word, String piece) {
        MorphWords words = withWord(word);
        look(words, piece);
        return words;
    }

    static String word(MorphWords words) {
        StringBuilder word = new StringBuilder();
        int length = words.count(0);
        for (int place = 0; place < length; place++) {
            word.append((char) ('a' + words.at(place)));
        }
        return word.toString();
    }

    static String rule(MorphWords words) {
        StringBuilder rule = new StringBuilder();
        for (int letter = 0; letter < 4; letter++) {
            rule.append(letter == 0 ? "" : ";");
            int length = words.rule(letter, 0);
            for (int place = 0; place < length; place++) {
                rule.append((char) ('a' + words.image(letter, place)));
            }
        }
        return rule.toString();
    }

    /** The word, if it is short; otherwise its length and the letters at some of its places. */
    private static String shortened(MorphWords words) {
        int length = words.count(0);
        if (length <= 40) {
            return word(words);
        }
        StringBuilder some = new StringBuilder().append(length).append(':');
        for (int place = 0; place < length; place += place < 9 || place > length - 10 ? 1 : 7) {
            some.append((char) ('a' + words.at(place)));
        }
        return some.toString();
    }

    /** Where the piece comes, if one is looked for: at most ten places. */
    private static String places(MorphWords words) {
        StringBuilder places = new StringBuilder();
        for (int rank = 0; rank < Math.min(10, words.count(3)); rank++) {
            places.append('@').append(words.comes(rank));
        }
        return places.toString();
    }

    /** What can be seen of a state: the rule, the word, the length of the piece and where it comes. */
    static String state(MorphWords words) {
        return rule(words) + " " + shortened(words) + " " + words.count(2) + places(words);
    }

    /** The state behind some calls of undo. */
    static String stateBack(MorphWords words, int times) {
        for (int time = 0; time < times; time++) {
            words.undo();
        }
        return state(words);
    }

    /** What is looked for, told by its length and its places in a word that has many pieces. */
    static String soughtPiece(MorphWords words) {
        read(words, "a=abdcbada;b=bbbacbbc;c=ddcadbbd;d=cccaaddb");
        words.start(0);
        words.grow(3);
        return words.count(2) + places(words);
    }
}
