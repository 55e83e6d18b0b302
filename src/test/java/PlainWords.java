import java.util.ArrayDeque;
import java.util.ArrayList;
import java.util.Deque;
import java.util.LinkedHashSet;
import java.util.List;
import java.util.Set;
import java.util.TreeMap;
import java.util.TreeSet;
import java.util.regex.Pattern;

/**
 * The document said once more with the Java library, as plainly as its words are and without a
 * thought for room or speed. OracleTest compares the program with it.
 */
final class PlainWords {
    private record State(List<String> images, String word, String piece) {
    }

    private static final String LETTERS = "abcd";

    private State now = new State(List.of("a", "b", "c", "d"), "a", null);
    private State snapshot = null;
    private final Deque<State> history = new ArrayDeque<>();
    private String text = "";

    private int act(State next, int answer) {
        history.addLast(now);
        if (history.size() > 4) {
            history.removeFirst();
        }
        now = next;
        return answer;
    }

    private int actUnlessSame(State next, int answer) {
        return next.equals(now) ? -5 : act(next, answer);
    }

    private static boolean noLetter(int number) {
        return number < 0 || number > 3;
    }

    private static String image(List<String> images, String word) {
        StringBuilder image = new StringBuilder();
        for (char letter : word.toCharArray()) {
            image.append(images.get(letter - 'a'));
        }
        return image.toString();
    }

    /** The longest beginning of the text that something allowed can begin with; -1 if it is whole. */
    private int fault(String whole, String beginnings) {
        if (Pattern.matches(whole, text)) {
            return -1;
        }
        for (int length = 0; length <= text.length(); length++) {
            if (!Pattern.matches(beginnings, text.substring(0, length))) {
                return length - 1;
            }
        }
        return text.length();
    }

    int readRule() {
        String part = "[abcd]=[abcd]{1,8}";
        int fault = fault(part + "(;" + part + ")*", "(" + part + ";)*([abcd](=[abcd]{0,8})?)?");
        if (fault >= 0) {
            return -100 - fault;
        }
        List<String> images = new ArrayList<>(now.images);
        String[] parts = text.split(";");
        for (String told : parts) {
            images.set(told.charAt(0) - 'a', told.substring(2));
        }
        return actUnlessSame(new State(images, now.word, now.piece), parts.length);
    }

    int square() {
        List<String> images = new ArrayList<>();
        int all = 0;
        for (String image : now.images) {
            String next = image(now.images, image);
            if (next.length() > 8) {
                return -3;
            }
            all += next.length();
            images.add(next);
        }
        return actUnlessSame(new State(images, now.word, now.piece), all);
    }

    int shift(boolean right) {
        Set<Character> ends = new TreeSet<>();
        List<String> images = new ArrayList<>();
        for (String image : now.images) {
            int last = image.length() - 1;
            ends.add(image.charAt(right ? last : 0));
            images.add(right ? image.charAt(last) + image.substring(0, last)
                : image.substring(1) + image.charAt(0));
        }
        if (ends.size() != 1) {
            return -4;
        }
        return actUnlessSame(new State(images, now.word, now.piece), ends.iterator().next() - 'a');
    }

    private static String exchanged(String word, int one, int other) {
        char first = LETTERS.charAt(one);
        char second = LETTERS.charAt(other);
        return word.replace(first, '*').replace(second, first).replace('*', second);
    }

    int swap(int one, int other) {
        if (noLetter(one) || noLetter(other)) {
            return -1;
        }
        if (one == other) {
            return -5;
        }
        List<String> images = new ArrayList<>();
        for (int letter = 0; letter < 4; letter++) {
            int from = letter == one ? other : letter == other ? one : letter;
            images.add(exchanged(now.images.get(from), one, other));
        }
        String word = exchanged(now.word, one, other);
        int changed = 0;
        for (int i = 0; i < word.length(); i++) {
            changed += word.charAt(i) == now.word.charAt(i) ? 0 : 1;
        }
        return act(new State(images, word, now.piece), changed);
    }

    int start(int letter) {
        if (noLetter(letter)) {
            return -1;
        }
        return actUnlessSame(new State(now.images, "" + LETTERS.charAt(letter), now.piece), now.word.length());
    }

    int grow(int times) {
        if (times < 1 || times > 20) {
            return -2;
        }
        String word = now.word;
        for (int i = 0; i < times; i++) {
            word = image(now.images, word);
            word = word.substring(0, Math.min(300, word.length()));
        }
        return actUnlessSame(new State(now.images, word, now.piece), word.length());
    }

    int cut(int length) {
        if (length < 1 || length > now.word.length()) {
            return -2;
        }
        String word = now.word.substring(0, length);
        return actUnlessSame(new State(now.images, word, now.piece), now.word.length() - length);
    }

    private List<Integer> places() {
        List<Integer> places = new ArrayList<>();
        for (int place = 0; place < now.word.length(); place++) {
            if (now.word.startsWith(now.piece, place)) {
                places.add(place);
            }
        }
        return places;
    }

    private List<String> returnRow() {
        List<String> row = new ArrayList<>();
        List<Integer> places = places();
        for (int rank = 1; rank < places.size(); rank++) {
            row.add(now.word.substring(places.get(rank - 1), places.get(rank)));
        }
        return row;
    }

    private static List<String> different(List<String> row) {
        return new ArrayList<>(new LinkedHashSet<>(row));
    }

    int derive() {
        if (now.piece == null || places().size() < 2) {
            return -4;
        }
        List<String> row = returnRow();
        List<String> different = different(row);
        if (different.size() > 4) {
            return -4;
        }
        StringBuilder word = new StringBuilder();
        for (String oneReturn : row) {
            word.append(LETTERS.charAt(different.indexOf(oneReturn)));
        }
        return actUnlessSame(new State(now.images, word.toString(), now.piece), word.length());
    }

    int look() {
        int fault = fault("[abcd]{1,20}", "[abcd]{0,20}");
        if (fault >= 0) {
            return -100 - fault;
        }
        State next = new State(now.images, now.word, text);
        if (next.equals(now)) {
            return -5;
        }
        act(next, 0);
        return places().size();
    }

    int type(char character) {
        if (text.length() == 60) {
            return -3;
        }
        text += character;
        return text.length();
    }

    int clearText() {
        int had = text.length();
        text = "";
        return had;
    }

    int undo() {
        if (history.isEmpty()) {
            return -5;
        }
        now = history.removeLast();
        return history.size();
    }

    int keep() {
        snapshot = now;
        return now.word.length();
    }

    int restore() {
        return snapshot == null ? -5 : act(snapshot, snapshot.word.length());
    }

    int image(int letter, int place) {
        if (noLetter(letter) || place < 0 || place >= now.images.get(letter).length()) {
            return -1;
        }
        return now.images.get(letter).charAt(place) - 'a';
    }

    private static int bits(String letters) {
        int bits = 0;
        for (char letter : letters.toCharArray()) {
            bits |= 1 << (letter - 'a');
        }
        return bits;
    }

    private String reached(char letter) {
        String reached = "" + letter;
        for (int i = 0; i < reached.length(); i++) {
            for (char led : now.images.get(reached.charAt(i) - 'a').toCharArray()) {
                reached += reached.indexOf(led) < 0 ? "" + led : "";
            }
        }
        return reached;
    }

    int rule(int letter, int what) {
        if (noLetter(letter)) {
            return -1;
        }
        String image = now.images.get(letter);
        char itself = LETTERS.charAt(letter);
        return switch (what) {
            case 0 -> image.length();
            case 1 -> bits(image);
            case 2 -> bits(reached(itself));
            case 3 -> image.matches(itself + ".+") ? 1 : 0;
            default -> -2;
        };
    }

    /** How often each letter comes in an n-th image; null if it is too long. */
    private long[] power(int letter, int times) {
        long[] counts = new long[4];
        counts[letter] = 1;
        for (int i = 0; i < times; i++) {
            long[] next = new long[4];
            for (int from = 0; from < 4; from++) {
                for (char to : now.images.get(from).toCharArray()) {
                    next[to - 'a'] += counts[from];
                }
            }
            counts = next;
            if (sum(counts) > 1000000) {
                return null;
            }
        }
        return counts;
    }

    private static long sum(long[] counts) {
        return counts[0] + counts[1] + counts[2] + counts[3];
    }

    int lengthBehind(int letter, int times) {
        if (noLetter(letter)) {
            return -1;
        }
        if (times < 0 || times > 30) {
            return -2;
        }
        long[] counts = power(letter, times);
        return counts == null ? -3 : (int) sum(counts);
    }

    int countBehind(int letter, int other, int times) {
        if (noLetter(letter) || noLetter(other)) {
            return -1;
        }
        if (times < 0 || times > 30) {
            return -2;
        }
        long[] counts = power(letter, times);
        return counts == null ? -3 : (int) counts[other];
    }

    int mixing() {
        String all = reached('a');
        List<Set<Character>> sets = new ArrayList<>();
        for (char letter : all.toCharArray()) {
            sets.add(new TreeSet<>(Set.of(letter)));
        }
        for (int times = 1; times <= 16; times++) {
            boolean mixing = true;
            for (int i = 0; i < sets.size(); i++) {
                Set<Character> next = new TreeSet<>();
                for (char from : sets.get(i)) {
                    for (char to : now.images.get(from - 'a').toCharArray()) {
                        next.add(to);
                    }
                }
                sets.set(i, next);
                mixing &= next.size() == all.length();
            }
            if (mixing) {
                return times;
            }
        }
        return -5;
    }

    int at(int place) {
        return place < 0 || place >= now.word.length() ? -1 : now.word.charAt(place) - 'a';
    }

    private static boolean mirror(String piece) {
        return new StringBuilder(piece).reverse().toString().equals(piece);
    }

    int pieces(int length, int what) {
        if (length < 1 || length > 20 || what < 0 || what > 3) {
            return -2;
        }
        TreeMap<String, Set<Character>> behind = new TreeMap<>();
        TreeMap<String, Set<Character>> ahead = new TreeMap<>();
        for (int place = 0; place + length <= now.word.length(); place++) {
            String piece = now.word.substring(place, place + length);
            behind.putIfAbsent(piece, new TreeSet<>());
            ahead.putIfAbsent(piece, new TreeSet<>());
            if (place + length < now.word.length()) {
                behind.get(piece).add(now.word.charAt(place + length));
            }
            if (place > 0) {
                ahead.get(piece).add(now.word.charAt(place - 1));
            }
        }
        return switch (what) {
            case 0 -> behind.size();
            case 1 -> (int) behind.values().stream().filter(set -> set.size() >= 2).count();
            case 2 -> (int) ahead.values().stream().filter(set -> set.size() >= 2).count();
            default -> (int) behind.keySet().stream().filter(PlainWords::mirror).count();
        };
    }

    int balance(int letter, int length) {
        if (noLetter(letter)) {
            return -1;
        }
        if (length < 1 || length > 300) {
            return -2;
        }
        if (length > now.word.length()) {
            return -5;
        }
        TreeSet<Integer> counts = new TreeSet<>();
        for (int place = 0; place + length <= now.word.length(); place++) {
            counts.add(occurrences(now.word.substring(place, place + length), letter));
        }
        return counts.last() - counts.first();
    }

    private static int occurrences(String word, int letter) {
        return (int) word.chars().filter(sign -> sign == 'a' + letter).count();
    }

    private static int lowest(int number, int other) {
        for (int divisor = Math.max(number, other); divisor > 1; divisor--) {
            if (number % divisor == 0 && other % divisor == 0) {
                return number / divisor;
            }
        }
        return number;
    }

    int share(int letter, int what) {
        if (noLetter(letter)) {
            return -1;
        }
        int times = occurrences(now.word, letter);
        int all = now.word.length();
        return what == 0 ? lowest(times, all) : what == 1 ? lowest(all, times) : -2;
    }

    /** Whether the letter at a place is there and the same as the one a period ahead of it. */
    private boolean goesOn(int period, int place) {
        return place - period >= 0 && place < now.word.length()
            && now.word.charAt(place) == now.word.charAt(place - period);
    }

    int run(int what) {
        if (what < 0 || what > 4) {
            return -2;
        }
        int[] best = null;
        int all = now.word.length();
        for (int period = 1; period <= all; period++) {
            for (int first = 0; first + period <= all; first++) {
                int last = first + period - 1;
                while (goesOn(period, last + 1)) {
                    last++;
                }
                int length = last - first + 1;
                if (!goesOn(period, first - 1 + period)
                    && (best == null || (double) length / period > (double) best[2] / best[0] + 1e-9)) {
                    best = new int[] {period, first, length, 0, 0};
                }
            }
        }
        best[3] = lowest(best[2], best[0]);
        best[4] = lowest(best[0], best[2]);
        return best[what];
    }

    int mirrored(int what) {
        if (what < 0 || what > 1) {
            return -2;
        }
        for (int length = now.word.length(); ; length--) {
            for (int place = 0; place + length <= now.word.length(); place++) {
                if (mirror(now.word.substring(place, place + length))) {
                    return what == 0 ? place : length;
                }
            }
        }
    }

    int comes(int rank) {
        if (rank < 0) {
            return -2;
        }
        if (now.piece == null) {
            return -4;
        }
        return rank < places().size() ? places().get(rank) : -5;
    }

    int returns(int number, int what) {
        if (number < 0 || what < 0 || what > 2) {
            return -2;
        }
        if (now.piece == null) {
            return -4;
        }
        List<String> row = returnRow();
        List<String> different = different(row);
        if (number >= different.size()) {
            return -5;
        }
        String told = different.get(number);
        return switch (what) {
            case 0 -> told.length();
            case 1 -> places().get(row.indexOf(told));
            default -> (int) row.stream().filter(told::equals).count();
        };
    }

    int row(int place) {
        if (place < 0) {
            return -2;
        }
        if (now.piece == null) {
            return -4;
        }
        List<String> row = returnRow();
        return place < row.size() ? different(row).indexOf(row.get(place)) : -5;
    }

    int count(int what) {
        return switch (what) {
            case 0 -> now.word.length();
            case 1 -> bits(now.word);
            case 2 -> now.piece == null ? 0 : now.piece.length();
            case 3 -> now.piece == null ? -5 : places().size();
            case 4 -> now.piece == null ? -5 : different(returnRow()).size();
            case 5 -> String.join("", now.images).length();
            case 6 -> history.size();
            case 7 -> text.length();
            default -> -2;
        };
    }

    /** Not of the document's face: what a driver needs to choose pieces that come. */
    String word() {
        return now.word;
    }
}
