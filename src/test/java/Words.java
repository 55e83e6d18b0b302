/** Ways to bring an object into a state and to see what state it is in. */
final class Words {
    private Words() {
    }

    static void type(MorphWords words, String text) {
        words.clearText();
        for (int i = 0; i < text.length(); i++) {
            words.type(text.charAt(i));
        }
    }

    static int read(MorphWords words, String rule) {
        type(words, rule);
        return words.readRule();
    }

    static int look(MorphWords words, String piece) {
        type(words, piece);
        return words.look();
    }

    static MorphWords withRule(String rule) {
        MorphWords words = new MorphWords();
        read(words, rule);
        return words;
    }

    /** An object that has a word of at most 24 letters; its rule and its history are free. */
    static MorphWords withWord(String word) {
        if (word.isEmpty() || word.length() > 24) {
            throw new IllegalArgumentException(word);
        }
        MorphWords words = new MorphWords();
        StringBuilder heads = new StringBuilder("a=");
        StringBuilder images = new StringBuilder();
        for (int from = 0; from < word.length(); from += 8) {
            char head = (char) ('b' + from / 8);
            heads.append(head);
            images.append(from == 0 ? "" : ";").append(head).append('=');
            images.append(word, from, Math.min(word.length(), from + 8));
        }
        read(words, heads.toString());
        words.grow(1);
        read(words, images.toString());
        words.grow(1);
        return words;
    }

    /** An object that has a rule, and a text typed behind it. */
    static MorphWords withText(String rule, String text) {
        MorphWords words = withRule(rule);
        type(words, text);
        return words;
    }

    /** An object that has a word of at most 24 letters and looks for a piece. */
    static MorphWords withPiece(String word, String piece) {
        MorphWords words = withWord(word);
        look(words, piece);
        return words;
    }

    static String word(MorphWords words) {
        StringBuilder word = new StringBuilder();
        int length = words.count(0);
        for (int place = 0; place < length; place++) {
            word.append((char) ('a' + words.at(place)));
        }
        return word.toString();
    }

    static String rule(MorphWords words) {
        StringBuilder rule = new StringBuilder();
        for (int letter = 0; letter < 4; letter++) {
            rule.append(letter == 0 ? "" : ";");
            int length = words.rule(letter, 0);
            for (int place = 0; place < length; place++) {
                rule.append((char) ('a' + words.image(letter, place)));
            }
        }
        return rule.toString();
    }

    /** What can be seen of a state, for short words: the rule, the word, the piece and its places. */
    static String state(MorphWords words) {
        StringBuilder state = new StringBuilder(rule(words)).append(' ').append(word(words));
        state.append(' ').append(words.count(2));
        for (int rank = 0; rank < words.count(3); rank++) {
            state.append('@').append(words.comes(rank));
        }
        return state.toString();
    }

    /** What can be seen of an object, for short words: its state, its history and its text. */
    static String all(MorphWords words) {
        return state(words) + " " + words.count(6) + " " + words.count(7);
    }
}
