import java.util.ArrayDeque;
import java.util.Deque;
import java.util.HashSet;
import java.util.Set;

/** The document once more, word by word and without any thought of speed: texts are Strings, keys are Strings. */
final class Reference {
    private String[] texts = {"", ""};
    private int alphabet = 4;
    private String buffer = "";
    private final Deque<String[]> saved = new ArrayDeque<>();
    private int block = 2;
    private Set<String> keys = new HashSet<>();
    private int hits = 0;
    private int misses = 0;
    private int singles = 0;

    static int distanceOf(String a, String b) {
        return gridOf(a, b)[a.length()][b.length()];
    }

    static int[][] gridOf(String a, String b) {
        int[][] d = new int[a.length() + 1][b.length() + 1];
        for (int i = 0; i <= a.length(); i++) {
            for (int j = 0; j <= b.length(); j++) {
                if (i == 0 || j == 0) {
                    d[i][j] = i + j;
                } else if (a.charAt(i - 1) == b.charAt(j - 1)) {
                    d[i][j] = Math.min(d[i - 1][j - 1], 1 + Math.min(d[i - 1][j], d[i][j - 1]));
                } else {
                    d[i][j] = 1 + Math.min(d[i - 1][j - 1], Math.min(d[i - 1][j], d[i][j - 1]));
                }
            }
        }
        return d;
    }

    private int[][] d() {
        return gridOf(texts[0], texts[1]);
    }

    private void save() {
        saved.addLast(new String[] {texts[0], texts[1], String.valueOf(alphabet)});
        if (saved.size() > 6) {
            saved.removeFirst();
        }
    }

    private void needText(int text) {
        if (text < 0 || text > 1) {
            throw new IndexOutOfBoundsException();
        }
    }

    private void needLetter(int letter) {
        if (letter < 0 || letter >= alphabet) {
            throw new IllegalArgumentException();
        }
    }

    private static void needIndex(int index, int least, int most) {
        if (index < least || index > most) {
            throw new IndexOutOfBoundsException();
        }
    }

    private static void needNumber(int number, int least, int most) {
        if (number < least || number > most) {
            throw new IllegalArgumentException();
        }
    }

    private static boolean keeps(String text, int letters) {
        for (char c : text.toCharArray()) {
            if (c != '|' && c - 'a' >= letters) {
                return false;
            }
        }
        return true;
    }

    private static String withLetter(String text, int index, int letter) {
        return text.substring(0, index) + (char) ('a' + letter) + text.substring(index + 1);
    }

    int load() {
        if (!buffer.matches("[a-d]{0,20}\\|[a-d]{0,20}") || !keeps(buffer, alphabet)) {
            throw new IllegalArgumentException();
        }
        save();
        int bar = buffer.indexOf('|');
        texts[0] = buffer.substring(0, bar);
        texts[1] = buffer.substring(bar + 1);
        buffer = "";
        return texts[0].length() + texts[1].length();
    }

    int insert(int text, int index, int letter) {
        needText(text);
        needIndex(index, 0, texts[text].length());
        needLetter(letter);
        if (texts[text].length() == 20) {
            throw new IllegalStateException();
        }
        save();
        texts[text] = texts[text].substring(0, index) + (char) ('a' + letter) + texts[text].substring(index);
        return texts[text].length();
    }

    int remove(int text, int index) {
        int gone = letter(text, index);
        save();
        texts[text] = texts[text].substring(0, index) + texts[text].substring(index + 1);
        return gone;
    }

    int replace(int text, int index, int letter) {
        int previous = letter(text, index);
        needLetter(letter);
        save();
        texts[text] = withLetter(texts[text], index, letter);
        return previous;
    }

    int exchange() {
        save();
        texts = new String[] {texts[1], texts[0]};
        return texts[0].length();
    }

    int setAlphabet(int letters) {
        needNumber(letters, 2, 4);
        if (!keeps(texts[0] + texts[1], letters)) {
            throw new IllegalStateException();
        }
        save();
        int previous = alphabet;
        alphabet = letters;
        return previous;
    }

    int length(int text) {
        needText(text);
        return texts[text].length();
    }

    int letter(int text, int index) {
        needText(text);
        needIndex(index, 0, texts[text].length() - 1);
        return texts[text].charAt(index) - 'a';
    }

    int distance() {
        return distanceOf(texts[0], texts[1]);
    }

    int prefix(int i, int j) {
        needIndex(i, 0, texts[0].length());
        needIndex(j, 0, texts[1].length());
        return distanceOf(texts[0].substring(0, i), texts[1].substring(0, j));
    }

    String way() {
        int[][] d = d();
        StringBuilder reverse = new StringBuilder();
        int i = texts[0].length();
        int j = texts[1].length();
        while (i > 0 || j > 0) {
            boolean both = i > 0 && j > 0;
            boolean same = both && texts[0].charAt(i - 1) == texts[1].charAt(j - 1);
            if (both && d[i][j] == d[i - 1][j - 1] + (same ? 0 : 1)) {
                reverse.append(same ? 0 : 1);
                i--;
                j--;
            } else if (i > 0 && d[i][j] == d[i - 1][j] + 1) {
                reverse.append(2);
                i--;
            } else {
                reverse.append(3);
                j--;
            }
        }
        return reverse.reverse().toString();
    }

    int steps() {
        return way().length();
    }

    int step(int index) {
        needIndex(index, 0, Integer.MAX_VALUE);
        String way = way();
        return index < way.length() ? way.charAt(index) - '0' : -1;
    }

    int count(int kind) {
        needIndex(kind, 0, 3);
        return (int) way().chars().filter(c -> c == '0' + kind).count();
    }

    int within(int bound) {
        needNumber(bound, 0, 20);
        return distance() <= bound ? distance() : -1;
    }

    int band(int bound) {
        needNumber(bound, 0, 20);
        int pairs = 0;
        for (int i = 0; i <= texts[0].length(); i++) {
            for (int j = 0; j <= texts[1].length(); j++) {
                if (-bound <= i - j && i - j <= bound) {
                    pairs++;
                }
            }
        }
        return pairs;
    }

    double similarity() {
        int longer = Math.max(texts[0].length(), texts[1].length());
        return longer == 0 ? 1.0 : 1.0 - (double) distance() / (double) longer;
    }

    int setBlock(int size) {
        needNumber(size, 1, 2);
        int previous = block;
        block = size;
        keys = new HashSet<>();
        hits = 0;
        misses = 0;
        singles = 0;
        return previous;
    }

    /** The keys of the whole blocks and a "." for each pair of the other ones, in their order. */
    private String[] blocks() {
        int[][] d = d();
        StringBuilder all = new StringBuilder();
        int m = texts[0].length();
        int n = texts[1].length();
        for (int i = 1; i <= m; i += block) {
            for (int j = 1; j <= n; j += block) {
                if (i + block - 1 <= m && j + block - 1 <= n) {
                    all.append(keyOf(d, i, j)).append(' ');
                } else {
                    int pairs = (Math.min(m + 1, i + block) - i) * (Math.min(n + 1, j + block) - j);
                    all.append(". ".repeat(pairs));
                }
            }
        }
        return all.toString().trim().split(" ");
    }

    private String keyOf(int[][] d, int i, int j) {
        StringBuilder key = new StringBuilder();
        key.append(texts[0], i - 1, i + block - 1).append('/').append(texts[1], j - 1, j + block - 1);
        for (int k = 0; k < block; k++) {
            key.append('/').append(d[i - 1][j + k] - d[i - 1][j + k - 1]);
        }
        for (int k = 0; k < block; k++) {
            key.append('/').append(d[i + k][j - 1] - d[i + k - 1][j - 1]);
        }
        return key.toString();
    }

    int measure() {
        for (String key : blocks()) {
            if (key.equals(".")) {
                singles++;
            } else if (!key.isEmpty() && keys.add(key)) {
                misses++;
            } else if (!key.isEmpty()) {
                hits++;
            }
        }
        return distance();
    }

    int hits() {
        return hits;
    }

    int misses() {
        return misses;
    }

    int singleSteps() {
        return singles;
    }

    int across(int i, int j) {
        needIndex(i, 0, texts[0].length());
        needIndex(j, 1, texts[1].length());
        return prefix(i, j) - prefix(i, j - 1);
    }

    /** s(i, n), tried with every part of text 0 that ends there. */
    private int found(int i) {
        int least = Integer.MAX_VALUE;
        for (int begin = 0; begin <= i; begin++) {
            least = Math.min(least, distanceOf(texts[0].substring(begin, i), texts[1]));
        }
        return least;
    }

    int foundDistance() {
        int least = Integer.MAX_VALUE;
        for (int i = 0; i <= texts[0].length(); i++) {
            least = Math.min(least, found(i));
        }
        return least;
    }

    int foundEnd() {
        int i = 0;
        int least = foundDistance();
        while (found(i) != least) {
            i++;
        }
        return i;
    }

    int ifReplaced(int text, int index, int letter) {
        letter(text, index);
        needLetter(letter);
        return distanceOf(withLetter(texts[text], index, letter), texts[1 - text]);
    }

    int bestReplacement(int text) {
        needText(text);
        int best = -1;
        for (int index = 0; index < texts[text].length(); index++) {
            for (int letter = 0; letter < alphabet; letter++) {
                if (best < 0 || ifReplaced(text, index, letter) < ifReplaced(text, best / 10, best % 10)) {
                    best = 10 * index + letter;
                }
            }
        }
        return best;
    }

    int missesToCome() {
        Set<String> later = new HashSet<>(keys);
        for (String key : blocks()) {
            if (!key.isEmpty() && !key.equals(".")) {
                later.add(key);
            }
        }
        return later.size() - keys.size();
    }

    int append(int code) {
        needNumber(code, 33, 126);
        if (buffer.length() == 60) {
            throw new IllegalStateException();
        }
        buffer += (char) code;
        return buffer.length();
    }

    int clearBuffer() {
        int previous = buffer.length();
        buffer = "";
        return previous;
    }

    int firstError() {
        for (int k = 0; k < buffer.length(); k++) {
            if (!buffer.substring(0, k + 1).matches("[a-d]{0,20}(\\|[a-d]{0,20})?")) {
                return k;
            }
        }
        return buffer.length();
    }

    int undo() {
        if (saved.isEmpty()) {
            throw new IllegalStateException();
        }
        String[] state = saved.removeLast();
        texts = new String[] {state[0], state[1]};
        alphabet = Integer.parseInt(state[2]);
        return saved.size();
    }

    int savedStates() {
        return saved.size();
    }

    long digest() {
        StringBuilder list = new StringBuilder();
        list.append(alphabet);
        for (int text = 0; text < 2; text++) {
            list.append(' ').append(length(text));
            for (char c : texts[text].toCharArray()) {
                list.append(' ').append(c - 'a');
            }
        }
        list.append(' ').append(distance()).append(' ').append(steps());
        list.append(' ').append(foundDistance()).append(' ').append(foundEnd());
        list.append(' ').append(hits).append(' ').append(misses);
        list.append(' ').append(singles).append(' ').append(missesToCome());
        for (char c : way().toCharArray()) {
            list.append(' ').append(c);
        }
        list.append(' ').append(bestReplacement(0)).append(' ').append(bestReplacement(1));
        for (int[] row : d()) {
            for (int value : row) {
                list.append(' ').append(value);
            }
        }
        long hash = 4194;
        for (String value : list.toString().split(" ")) {
            hash = 31 * hash + Long.parseLong(value);
        }
        return hash;
    }
}
