/**
 * Edit distances between two texts, by single steps and by blocks.
 *
 * Nothing is made after the constructor but the saved states, six at most: every call works in the
 * rows that stand here. The grids are filled anew by each call that reads them, so that no answer
 * can come from texts that have changed since.
 */
public final class BlockDistance {
    public static final int NONE = -1;

    private static final int MOST_LETTERS = 20;
    private static final int LEAST_ALPHABET = 2;
    private static final int MOST_ALPHABET = 4;
    private static final int MOST_BLOCK = 2;
    private static final int MOST_SAVED = 6;
    private static final int BUFFER_ROOM = 60;
    private static final int FIRST_CODE = 33;
    private static final int LAST_CODE = 126;
    private static final int BAR = '|';
    private static final int FIRST_LETTER = 'a';

    private static final int DELETE_STEP = 2;
    private static final int INSERT_STEP = 3;

    /** d(i, 0) is i times the first of these, and s(i, 0) is i times the second: else both grow alike. */
    private static final int FROM_THE_BEGINNING = 1;
    private static final int FROM_ANYWHERE = 0;

    private static final int ABOVE_ANY_DISTANCE = MOST_LETTERS + 1;
    private static final int FACTOR_FOR_BEST = 10;
    private static final long HASH_START = 4194L;
    private static final long HASH_FACTOR = 31L;

    private final State state = new State();
    private final SavedStates saved = new SavedStates();
    private final InputBuffer buffer = new InputBuffer();
    private final Grid distances = new Grid();
    private final Grid search = new Grid();
    private final Way way = new Way();
    private final BlockTable table = new BlockTable();
    private final BlockTable trialTable = new BlockTable();
    private final Replacements replacements = new Replacements();

    public BlockDistance() {
    }

    // ---- texts

    public int load() throws IllegalArgumentException {
        if (!buffer.isComplete() || !buffer.keepsTo(state.alphabet())) {
            throw new IllegalArgumentException("the buffer is no input text of this alphabet");
        }
        saved.save(state);
        buffer.moveTo(state.text(0), state.text(1));
        return state.text(0).size() + state.text(1).size();
    }

    public int insert(int text, int index, int letter)
            throws IndexOutOfBoundsException, IllegalArgumentException, IllegalStateException {
        Text changed = textOf(text);
        if (index < 0 || index > changed.size()) {
            throw new IndexOutOfBoundsException("no such place in the text");
        }
        checkLetter(letter);
        if (changed.size() >= MOST_LETTERS) {
            throw new IllegalStateException("the text has 20 letters");
        }
        saved.save(state);
        changed.putIn(index, letter);
        return changed.size();
    }

    public int remove(int text, int index) throws IndexOutOfBoundsException {
        Text changed = textOf(text);
        checkPlace(changed, index);
        saved.save(state);
        int gone = changed.at(index);
        changed.takeOut(index);
        return gone;
    }

    public int replace(int text, int index, int letter) throws IndexOutOfBoundsException, IllegalArgumentException {
        Text changed = textOf(text);
        checkPlace(changed, index);
        checkLetter(letter);
        saved.save(state);
        int previous = changed.at(index);
        changed.set(index, letter);
        return previous;
    }

    public int exchange() {
        saved.save(state);
        state.swapTexts();
        return state.text(0).size();
    }

    public int setAlphabet(int letters) throws IllegalArgumentException, IllegalStateException {
        if (letters < LEAST_ALPHABET || letters > MOST_ALPHABET) {
            throw new IllegalArgumentException("an alphabet has 2 to 4 letters");
        }
        if (!state.text(0).keepsTo(letters) || !state.text(1).keepsTo(letters)) {
            throw new IllegalStateException("a letter of a text would not be in the alphabet");
        }
        saved.save(state);
        int previous = state.alphabet();
        state.setLetters(letters);
        return previous;
    }

    public int length(int text) throws IndexOutOfBoundsException {
        return textOf(text).size();
    }

    public int letter(int text, int index) throws IndexOutOfBoundsException {
        Text asked = textOf(text);
        checkPlace(asked, index);
        return asked.at(index);
    }

    // ---- distance by single steps

    public int distance() {
        return currentDistances().at(state.text(0).size(), state.text(1).size());
    }

    public int prefix(int i, int j) throws IndexOutOfBoundsException {
        checkPrefixes(i, j, 0);
        return currentDistances().at(i, j);
    }

    public int steps() {
        return currentWay().size();
    }

    public int step(int index) throws IndexOutOfBoundsException {
        if (index < 0) {
            throw new IndexOutOfBoundsException("a step has no negative index");
        }
        return currentWay().at(index);
    }

    public int count(int kind) throws IndexOutOfBoundsException {
        if (kind < 0 || kind > INSERT_STEP) {
            throw new IndexOutOfBoundsException("no such kind of step");
        }
        return currentWay().stepsOf(kind);
    }

    public int within(int bound) throws IllegalArgumentException {
        checkBound(bound);
        int least = distance();
        return least <= bound ? least : NONE;
    }

    public int band(int bound) throws IllegalArgumentException {
        checkBound(bound);
        int m = state.text(0).size();
        int n = state.text(1).size();
        int pairs = 0;
        for (int i = 0; i <= m; i++) {
            int first = Math.max(0, i - bound);
            int last = Math.min(n, i + bound);
            pairs += Math.max(0, last - first + 1);
        }
        return pairs;
    }

    public double similarity() {
        int longer = Math.max(state.text(0).size(), state.text(1).size());
        if (longer == 0) {
            return 1.0;
        }
        return 1.0 - (double) distance() / (double) longer;
    }

    // ---- distance by blocks

    public int setBlock(int size) throws IllegalArgumentException {
        if (size < 1 || size > MOST_BLOCK) {
            throw new IllegalArgumentException("a block size is 1 or 2");
        }
        int previous = table.blockSize();
        table.startAnew(size);
        return previous;
    }

    public int measure() {
        table.meetBlocks(currentDistances(), state.text(0), state.text(1));
        return distance();
    }

    public int hits() {
        return table.hitCount();
    }

    public int misses() {
        return table.missCount();
    }

    public int singleSteps() {
        return table.singleCount();
    }

    public int across(int i, int j) throws IndexOutOfBoundsException {
        checkPrefixes(i, j, 1);
        return currentDistances().stepAcross(i, j);
    }

    // ---- search

    public int foundDistance() {
        int end = foundEnd();
        return currentSearch().at(end, state.text(1).size());
    }

    public int foundEnd() {
        int m = state.text(0).size();
        int n = state.text(1).size();
        Grid found = currentSearch();
        int best = 0;
        for (int i = 1; i <= m; i++) {
            if (found.at(i, n) < found.at(best, n)) {
                best = i;
            }
        }
        return best;
    }

    // ---- forecasts; they change nothing

    public int ifReplaced(int text, int index, int letter) throws IndexOutOfBoundsException, IllegalArgumentException {
        Text changed = textOf(text);
        checkPlace(changed, index);
        checkLetter(letter);
        Text other = textOf(1 - text);
        replacements.prepare(changed, other);
        return replacements.distanceWith(changed, other, index, letter);
    }

    public int bestReplacement(int text) throws IndexOutOfBoundsException {
        Text changed = textOf(text);
        Text other = textOf(1 - text);
        replacements.prepare(changed, other);
        int best = NONE;
        int least = ABOVE_ANY_DISTANCE;
        for (int index = 0; index < changed.size(); index++) {
            for (int letter = 0; letter < state.alphabet(); letter++) {
                int there = replacements.distanceWith(changed, other, index, letter);
                if (there < least) {
                    least = there;
                    best = FACTOR_FOR_BEST * index + letter;
                }
            }
        }
        return best;
    }

    public int missesToCome() {
        trialTable.copyFrom(table);
        trialTable.meetBlocks(currentDistances(), state.text(0), state.text(1));
        return trialTable.missCount() - table.missCount();
    }

    // ---- input text

    public int append(int code) throws IllegalArgumentException, IllegalStateException {
        if (code < FIRST_CODE || code > LAST_CODE) {
            throw new IllegalArgumentException("a character code is 33 to 126");
        }
        if (buffer.size() >= BUFFER_ROOM) {
            throw new IllegalStateException("the buffer contains 60 characters");
        }
        buffer.put(code);
        return buffer.size();
    }

    public int clearBuffer() {
        int previous = buffer.size();
        buffer.empty();
        return previous;
    }

    public int firstError() {
        return buffer.errorPlace();
    }

    // ---- undo

    public int undo() throws IllegalStateException {
        if (saved.size() == 0) {
            throw new IllegalStateException("no state is saved");
        }
        saved.restore(state);
        return saved.size();
    }

    public int savedStates() {
        return saved.size();
    }

    public long digest() {
        long hash = mix(HASH_START, state.alphabet());
        hash = mixText(hash, state.text(0));
        hash = mixText(hash, state.text(1));
        hash = mix(hash, distance());
        hash = mix(hash, steps());
        hash = mix(hash, foundDistance());
        hash = mix(hash, foundEnd());
        hash = mix(hash, hits());
        hash = mix(hash, misses());
        hash = mix(hash, singleSteps());
        hash = mix(hash, missesToCome());
        hash = mixWay(hash, currentWay());
        hash = mix(hash, bestReplacement(0));
        hash = mix(hash, bestReplacement(1));
        return mixGrid(hash, currentDistances());
    }

    private static long mix(long hash, long value) {
        return HASH_FACTOR * hash + value;
    }

    private static long mixText(long hash, Text text) {
        long mixed = mix(hash, text.size());
        for (int k = 0; k < text.size(); k++) {
            mixed = mix(mixed, text.at(k));
        }
        return mixed;
    }

    private static long mixWay(long hash, Way steps) {
        long mixed = hash;
        for (int k = 0; k < steps.size(); k++) {
            mixed = mix(mixed, steps.at(k));
        }
        return mixed;
    }

    private long mixGrid(long hash, Grid grid) {
        int m = state.text(0).size();
        int n = state.text(1).size();
        long mixed = hash;
        for (int i = 0; i <= m; i++) {
            for (int j = 0; j <= n; j++) {
                mixed = mix(mixed, grid.at(i, j));
            }
        }
        return mixed;
    }

    private Grid currentDistances() {
        distances.fill(state.text(0), state.text(1), FROM_THE_BEGINNING);
        return distances;
    }

    private Grid currentSearch() {
        search.fill(state.text(0), state.text(1), FROM_ANYWHERE);
        return search;
    }

    private Way currentWay() {
        way.find(currentDistances(), state.text(0), state.text(1));
        return way;
    }

    private Text textOf(int number) {
        if (number != 0 && number != 1) {
            throw new IndexOutOfBoundsException("there is no such text");
        }
        return state.text(number);
    }

    private static void checkPlace(Text text, int index) {
        if (index < 0 || index >= text.size()) {
            throw new IndexOutOfBoundsException("there is no such letter of the text");
        }
    }

    private void checkLetter(int letter) {
        if (letter < 0 || letter >= state.alphabet()) {
            throw new IllegalArgumentException("the letter is not in the alphabet");
        }
    }

    private void checkPrefixes(int i, int j, int leastJ) {
        if (i < 0 || i > state.text(0).size() || j < leastJ || j > state.text(1).size()) {
            throw new IndexOutOfBoundsException("i or j is out of range");
        }
    }

    private static void checkBound(int bound) {
        if (bound < 0 || bound > MOST_LETTERS) {
            throw new IllegalArgumentException("a bound is 0 to 20");
        }
    }

    private static int replaceCost(int letter, int other) {
        return letter == other ? 0 : 1;
    }

    private static int leastCost(int above, int before, int corner, int cost) {
        return Math.min(Math.min(above, before) + 1, corner + cost);
    }

    private static final class Text {
        private final int[] letters = new int[MOST_LETTERS];
        private int size = 0;

        int size() {
            return size;
        }

        int at(int index) {
            return index >= 0 && index < size ? letters[index] : NONE;
        }

        void set(int index, int letter) {
            if (index >= 0 && index < size) {
                letters[index] = letter;
            }
        }

        void putIn(int index, int letter) {
            if (index < 0 || index > size || size >= MOST_LETTERS) {
                return;
            }
            for (int k = size; k > index; k--) {
                letters[k] = letters[k - 1];
            }
            letters[index] = letter;
            size++;
        }

        void takeOut(int index) {
            if (index < 0 || index >= size) {
                return;
            }
            size--;
            for (int k = index; k < size; k++) {
                letters[k] = letters[k + 1];
            }
        }

        void empty() {
            size = 0;
        }

        void copyFrom(Text other) {
            empty();
            for (int k = 0; k < other.size(); k++) {
                putIn(k, other.at(k));
            }
        }

        void copyBackward(Text other) {
            empty();
            for (int k = 0; k < other.size(); k++) {
                putIn(k, other.at(other.size() - 1 - k));
            }
        }

        boolean keepsTo(int alphabet) {
            for (int k = 0; k < size; k++) {
                if (at(k) >= alphabet) {
                    return false;
                }
            }
            return true;
        }
    }

    private static final class State {
        private Text first = new Text();
        private Text second = new Text();
        private int alphabet = MOST_ALPHABET;

        Text text(int number) {
            return number == 0 ? first : second;
        }

        int alphabet() {
            return alphabet;
        }

        void setLetters(int letters) {
            alphabet = letters;
        }

        void swapTexts() {
            Text previous = first;
            first = second;
            second = previous;
        }

        void copyFrom(State other) {
            first.copyFrom(other.text(0));
            second.copyFrom(other.text(1));
            alphabet = other.alphabet();
        }
    }

    /** A ring: the state that is saved behind the last place takes the place of the oldest one. */
    private static final class SavedStates {
        private final State[] states = new State[MOST_SAVED];
        private int oldest = 0;
        private int size = 0;

        int size() {
            return size;
        }

        void save(State state) {
            if (size >= MOST_SAVED) {
                oldest = (oldest + 1) % MOST_SAVED;
                size--;
            }
            int place = (oldest + size) % MOST_SAVED;
            if (states[place] == null) {
                states[place] = new State();
            }
            states[place].copyFrom(state);
            size++;
        }

        void restore(State state) {
            if (size <= 0) {
                return;
            }
            size--;
            State last = states[(oldest + size) % MOST_SAVED];
            if (last != null) {
                state.copyFrom(last);
            }
        }
    }

    private static final class InputBuffer {
        private final int[] codes = new int[BUFFER_ROOM];
        private int size = 0;

        int size() {
            return size;
        }

        void put(int code) {
            if (size < BUFFER_ROOM) {
                codes[size] = code;
                size++;
            }
        }

        void empty() {
            size = 0;
        }

        int errorPlace() {
            int letters = 0;
            boolean barSeen = false;
            for (int k = 0; k < size; k++) {
                if (codes[k] == BAR && !barSeen) {
                    barSeen = true;
                    letters = 0;
                } else if (isLetter(codes[k]) && letters < MOST_LETTERS) {
                    letters++;
                } else {
                    return k;
                }
            }
            return size;
        }

        boolean isComplete() {
            return errorPlace() == size && barPlace() < size;
        }

        boolean keepsTo(int alphabet) {
            for (int k = 0; k < size; k++) {
                if (codes[k] != BAR && codes[k] - FIRST_LETTER >= alphabet) {
                    return false;
                }
            }
            return true;
        }

        void moveTo(Text first, Text second) {
            int bar = barPlace();
            first.empty();
            second.empty();
            for (int k = 0; k < bar; k++) {
                first.putIn(first.size(), codes[k] - FIRST_LETTER);
            }
            for (int k = bar + 1; k < size; k++) {
                second.putIn(second.size(), codes[k] - FIRST_LETTER);
            }
            empty();
        }

        private int barPlace() {
            for (int k = 0; k < size; k++) {
                if (codes[k] == BAR) {
                    return k;
                }
            }
            return size;
        }

        private static boolean isLetter(int code) {
            return code >= FIRST_LETTER && code < FIRST_LETTER + MOST_ALPHABET;
        }
    }

    /** The numbers for all pairs of beginnings of two texts. */
    private static final class Grid {
        private static final int SIDE = MOST_LETTERS + 1;

        private final int[] cells = new int[SIDE * SIDE];

        int at(int i, int j) {
            return isInside(i, j) ? cells[i * SIDE + j] : NONE;
        }

        int stepAcross(int i, int j) {
            return at(i, j) - at(i, j - 1);
        }

        int stepDown(int i, int j) {
            return at(i, j) - at(i - 1, j);
        }

        void fill(Text first, Text second, int startCost) {
            for (int j = 0; j <= second.size(); j++) {
                put(0, j, j);
            }
            for (int i = 1; i <= first.size(); i++) {
                put(i, 0, i * startCost);
                for (int j = 1; j <= second.size(); j++) {
                    int cost = replaceCost(first.at(i - 1), second.at(j - 1));
                    put(i, j, leastCost(at(i - 1, j), at(i, j - 1), at(i - 1, j - 1), cost));
                }
            }
        }

        private void put(int i, int j, int value) {
            if (isInside(i, j)) {
                cells[i * SIDE + j] = value;
            }
        }

        private static boolean isInside(int i, int j) {
            return i >= 0 && i < SIDE && j >= 0 && j < SIDE;
        }
    }

    /** The steps stand here as they are found: the last one of the way first. */
    private static final class Way {
        private static final int MOST_STEPS = 2 * MOST_LETTERS;

        private final int[] backward = new int[MOST_STEPS];
        private int size = 0;

        int size() {
            return size;
        }

        int at(int index) {
            return index >= 0 && index < size ? backward[size - 1 - index] : NONE;
        }

        int stepsOf(int kind) {
            int number = 0;
            for (int k = 0; k < size; k++) {
                if (at(k) == kind) {
                    number++;
                }
            }
            return number;
        }

        void find(Grid distances, Text first, Text second) {
            int i = first.size();
            int j = second.size();
            size = 0;
            while ((i > 0 || j > 0) && size < MOST_STEPS) {
                int kind = lastStep(distances, i, j, replaceCost(first.at(i - 1), second.at(j - 1)));
                backward[size] = kind;
                size++;
                if (kind != INSERT_STEP) {
                    i--;
                }
                if (kind != DELETE_STEP) {
                    j--;
                }
            }
        }

        /** The cost of a step from the corner is its kind too: 0 for the same letters, 1 for a replacement. */
        private static int lastStep(Grid distances, int i, int j, int cost) {
            int here = distances.at(i, j);
            if (i > 0 && j > 0 && here == distances.at(i - 1, j - 1) + cost) {
                return cost;
            }
            if (i > 0 && here == distances.at(i - 1, j) + 1) {
                return DELETE_STEP;
            }
            return INSERT_STEP;
        }
    }

    /** The keys that were met are bits, for there are few keys that can be. */
    private static final class BlockTable {
        private static final int KEYS_OF_A_PAIR = MOST_ALPHABET * MOST_ALPHABET * 3 * 3;
        private static final int BITS_OF_A_WORD = 64;
        private static final int WORDS = KEYS_OF_A_PAIR * KEYS_OF_A_PAIR / BITS_OF_A_WORD;

        private final long[] met = new long[WORDS];
        private int blockSize = MOST_BLOCK;
        private int hitCount = 0;
        private int missCount = 0;
        private int singleCount = 0;

        int blockSize() {
            return blockSize;
        }

        int hitCount() {
            return hitCount;
        }

        int missCount() {
            return missCount;
        }

        int singleCount() {
            return singleCount;
        }

        void startAnew(int size) {
            for (int k = 0; k < WORDS; k++) {
                met[k] = 0L;
            }
            blockSize = size;
            hitCount = 0;
            missCount = 0;
            singleCount = 0;
        }

        void copyFrom(BlockTable other) {
            System.arraycopy(other.met, 0, met, 0, WORDS);
            blockSize = other.blockSize;
            hitCount = other.hitCount;
            missCount = other.missCount;
            singleCount = other.singleCount;
        }

        void meetBlocks(Grid distances, Text first, Text second) {
            int t = Math.max(1, blockSize);
            for (int i = 1; i <= first.size(); i += t) {
                int high = Math.min(t, first.size() - i + 1);
                for (int j = 1; j <= second.size(); j += t) {
                    int wide = Math.min(t, second.size() - j + 1);
                    if (high == t && wide == t) {
                        meet(keyOf(distances, first, second, i, j));
                    } else {
                        singleCount += high * wide;
                    }
                }
            }
        }

        private int keyOf(Grid distances, Text first, Text second, int i, int j) {
            int key = 0;
            for (int k = 0; k < blockSize; k++) {
                int letters = first.at(i + k - 1) * MOST_ALPHABET + second.at(j + k - 1);
                int across = distances.stepAcross(i - 1, j + k) + 1;
                int down = distances.stepDown(i + k, j - 1) + 1;
                key = key * KEYS_OF_A_PAIR + (letters * 3 + across) * 3 + down;
            }
            return key;
        }

        private void meet(int key) {
            int word = key / BITS_OF_A_WORD;
            if (key < 0 || word >= WORDS) {
                return;
            }
            long bit = 1L << (key % BITS_OF_A_WORD);
            if ((met[word] & bit) != 0L) {
                hitCount++;
            } else {
                met[word] = met[word] | bit;
                missCount++;
            }
        }
    }

    /**
     * A changed letter leaves the distances of all that stands before it and of all that stands
     * behind it as they are: with both at hand, each new letter costs one row and not a whole grid.
     */
    private static final class Replacements {
        private final Grid before = new Grid();
        private final Grid behind = new Grid();
        private final Text changedBackward = new Text();
        private final Text otherBackward = new Text();

        /** The changed text may be text 1: the distance is the same from either side. */
        void prepare(Text changed, Text other) {
            before.fill(changed, other, FROM_THE_BEGINNING);
            changedBackward.copyBackward(changed);
            otherBackward.copyBackward(other);
            behind.fill(changedBackward, otherBackward, FROM_THE_BEGINNING);
        }

        int distanceWith(Text changed, Text other, int index, int letter) {
            int n = other.size();
            int rest = changed.size() - index - 1;
            int here = index + 1;
            int least = here + behind.at(rest, n);
            for (int j = 1; j <= n; j++) {
                int cost = replaceCost(letter, other.at(j - 1));
                here = leastCost(before.at(index, j), here, before.at(index, j - 1), cost);
                least = Math.min(least, here + behind.at(rest, n - j));
            }
            return least;
        }
    }
}
