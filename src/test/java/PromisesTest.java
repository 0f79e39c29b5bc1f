/** Each promise by itself: ordinary inputs, the edges that the document names, wrong inputs. */
public final class PromisesTest {
    private static final Class<IndexOutOfBoundsException> OUTSIDE = IndexOutOfBoundsException.class;
    private static final Class<IllegalArgumentException> WRONG = IllegalArgumentException.class;
    private static final Class<IllegalStateException> NOT_NOW = IllegalStateException.class;
    private static final int MIN = Integer.MIN_VALUE;
    private static final int MAX = Integer.MAX_VALUE;
    private static final String TWENTY_A = "a".repeat(20);
    private static final String TWENTY_B = "b".repeat(20);

    private static final Checks checks = new Checks("PromisesTest");

    private static void due(String call, Object want, Checks.Call got) {
        checks.due(call, want, got);
    }

    private static void dueThrow(String call, Class<? extends RuntimeException> kind, Checks.Call got) {
        checks.dueThrow(call, kind, got);
    }

    private static void append(BlockDistance x, String text) {
        for (char c : text.toCharArray()) {
            x.append(c);
        }
    }

    private static BlockDistance with(String first, String second) {
        BlockDistance x = new BlockDistance();
        append(x, first + "|" + second);
        x.load();
        return x;
    }

    private static String text(BlockDistance x, int text) {
        StringBuilder letters = new StringBuilder();
        for (int k = 0; k < x.length(text); k++) {
            letters.append((char) ('a' + x.letter(text, k)));
        }
        return letters.toString();
    }

    private static String texts(BlockDistance x) {
        return text(x, 0) + "|" + text(x, 1);
    }

    private static String way(BlockDistance x) {
        StringBuilder steps = new StringBuilder();
        for (int k = 0; k < x.steps(); k++) {
            steps.append(x.step(k));
        }
        return steps.toString();
    }

    private static String table(BlockDistance x) {
        return x.hits() + " " + x.misses() + " " + x.singleSteps();
    }

    private static void promise1NewObject() {
        BlockDistance x = new BlockDistance();
        due("new: NONE", -1, () -> BlockDistance.NONE);
        due("new: texts", "|", () -> texts(x));
        due("new: lengths", 0, () -> x.length(0) + x.length(1));
        due("new: saved states", 0, () -> x.savedStates());
        due("new: table", "0 0 0", () -> table(x));
        due("new: buffer", 0, () -> x.clearBuffer());
        due("new: alphabet", 4, () -> x.setAlphabet(4));
        due("new: block size", 2, () -> x.setBlock(2));
    }

    private static void promise2Load() {
        BlockDistance x = new BlockDistance();
        append(x, "abca|dd");
        due("load", 6, () -> x.load());
        due("load: texts", "abca|dd", () -> texts(x));
        due("load: buffer is emptied", 0, () -> x.clearBuffer());
        due("load: undoable", 0, () -> x.undo());
        due("load undone: texts", "|", () -> texts(x));
        due("load undone: the buffer is no part of the state", 0, () -> x.clearBuffer());
        BlockDistance full = with(TWENTY_A, TWENTY_B);
        due("load of 20 and 20", TWENTY_A + "|" + TWENTY_B, () -> texts(full));
        append(full, "|");
        due("load of two empty texts", 0, () -> full.load());
        due("load of two empty texts: texts", "|", () -> texts(full));
        append(full, "|b");
        due("load of one letter", 1, () -> full.load());
        due("load of one letter: texts", "|b", () -> texts(full));
    }

    private static void promise2LoadRefused() {
        for (String wrong : new String[] {"", "ab", "a||", "e|a", "a|b!", TWENTY_A + "a|", "|" + TWENTY_B + "b", "A|a"}) {
            BlockDistance x = with("ab", "c");
            append(x, wrong);
            dueThrow("load of " + wrong, WRONG, () -> x.load());
            due("load of " + wrong + ": texts stay", "ab|c", () -> texts(x));
            due("load of " + wrong + ": nothing is saved", 1, () -> x.savedStates());
            due("load of " + wrong + ": buffer stays", wrong.length(), () -> x.clearBuffer());
        }
        BlockDistance x = new BlockDistance();
        x.setAlphabet(2);
        append(x, "ab|ba");
        due("load within the alphabet", 4, () -> x.load());
        append(x, "ab|bc");
        dueThrow("load beyond the alphabet", WRONG, () -> x.load());
        due("load beyond the alphabet: texts stay", "ab|ba", () -> texts(x));
        x.setAlphabet(3);
        due("load with a larger alphabet", 4, () -> x.load());
        append(x, "d|");
        dueThrow("load beyond the alphabet of 3", WRONG, () -> x.load());
        x.clearBuffer();
        append(x, "ad|a");
        dueThrow("load beyond the alphabet at the second letter", WRONG, () -> x.load());
    }

    private static void promise3Insert() {
        BlockDistance x = with("ab", "c");
        due("insert ahead", 3, () -> x.insert(0, 0, 3));
        due("insert behind", 4, () -> x.insert(0, 3, 2));
        due("insert between", 5, () -> x.insert(0, 2, 0));
        due("insert into text 1", 2, () -> x.insert(1, 1, 1));
        due("insert: texts", "daabc|cb", () -> texts(x));
        due("insert: undoable", 4, () -> x.undo());
        due("insert undone", "daabc|c", () -> texts(x));
        dueThrow("insert into text 2", OUTSIDE, () -> x.insert(2, 0, 0));
        dueThrow("insert into text -1", OUTSIDE, () -> x.insert(-1, 0, 0));
        dueThrow("insert at -1", OUTSIDE, () -> x.insert(0, -1, 0));
        dueThrow("insert behind the end", OUTSIDE, () -> x.insert(0, 6, 0));
        dueThrow("insert behind the end of text 1", OUTSIDE, () -> x.insert(1, 2, 0));
        dueThrow("insert of letter 4", WRONG, () -> x.insert(0, 0, 4));
        dueThrow("insert of letter -1", WRONG, () -> x.insert(0, 0, -1));
        dueThrow("insert far outside", OUTSIDE, () -> x.insert(MIN, MAX, MAX));
        dueThrow("insert at the greatest number", OUTSIDE, () -> x.insert(0, MAX, 0));
        dueThrow("insert at the least number", OUTSIDE, () -> x.insert(0, MIN, 0));
        due("insert refused: texts stay", "daabc|c", () -> texts(x));
        due("insert refused: nothing is saved", 4, () -> x.savedStates());
    }

    private static void promise3InsertOrder() {
        BlockDistance x = with(TWENTY_A, "b".repeat(19));
        x.setAlphabet(2);
        dueThrow("insert into a full text", NOT_NOW, () -> x.insert(0, 0, 0));
        dueThrow("insert at the end of a full text", NOT_NOW, () -> x.insert(0, 20, 1));
        dueThrow("insert: index before all", OUTSIDE, () -> x.insert(0, 21, 2));
        dueThrow("insert: letter before the full text", WRONG, () -> x.insert(0, 0, 2));
        dueThrow("insert: index before letter", OUTSIDE, () -> x.insert(1, 20, 2));
        due("insert refused: texts stay", TWENTY_A + "|" + "b".repeat(19), () -> texts(x));
        due("insert refused: nothing is saved", 2, () -> x.savedStates());
        due("insert of the letter 20", 20, () -> x.insert(1, 19, 1));
        dueThrow("insert into a text that is full now", NOT_NOW, () -> x.insert(1, 0, 1));
    }

    private static void promise4Remove() {
        BlockDistance x = with("abcd", "db");
        due("remove between", 2, () -> x.remove(0, 2));
        due("remove the first", 0, () -> x.remove(0, 0));
        due("remove the last", 3, () -> x.remove(0, 1));
        due("remove from text 1", 1, () -> x.remove(1, 1));
        due("remove: texts", "b|d", () -> texts(x));
        due("remove: undoable", 4, () -> x.undo());
        due("remove undone", "b|db", () -> texts(x));
        dueThrow("remove at the end", OUTSIDE, () -> x.remove(0, 1));
        dueThrow("remove at -1", OUTSIDE, () -> x.remove(0, -1));
        dueThrow("remove from text 2", OUTSIDE, () -> x.remove(2, 0));
        dueThrow("remove from text -1", OUTSIDE, () -> x.remove(-1, 0));
        dueThrow("remove far outside", OUTSIDE, () -> x.remove(1, MAX));
        dueThrow("remove far below", OUTSIDE, () -> x.remove(1, MIN));
        due("remove refused: texts stay", "b|db", () -> texts(x));
        due("remove refused: nothing is saved", 4, () -> x.savedStates());
        BlockDistance full = with(TWENTY_A, TWENTY_B);
        due("remove from a full text", 1, () -> full.remove(1, 19));
        due("remove from a full text: length", 19, () -> full.length(1));
    }

    private static void promise5Replace() {
        BlockDistance x = with("abc", "dd");
        due("replace", 1, () -> x.replace(0, 1, 3));
        due("replace in text 1", 3, () -> x.replace(1, 0, 0));
        due("replace by the same letter", 3, () -> x.replace(1, 1, 3));
        due("replace: texts", "adc|ad", () -> texts(x));
        due("replace by the same letter is saved", 4, () -> x.savedStates());
        x.undo();
        due("replace: undoable", 2, () -> x.undo());
        due("replace undone", "adc|dd", () -> texts(x));
        dueThrow("replace at the end", OUTSIDE, () -> x.replace(0, 3, 0));
        dueThrow("replace at -1", OUTSIDE, () -> x.replace(0, -1, 0));
        dueThrow("replace in text 2", OUTSIDE, () -> x.replace(2, 0, 0));
        dueThrow("replace of letter 4", WRONG, () -> x.replace(0, 0, 4));
        dueThrow("replace of letter -1", WRONG, () -> x.replace(0, 0, -1));
        dueThrow("replace: index before letter", OUTSIDE, () -> x.replace(1, 2, 4));
        dueThrow("replace: text before letter", OUTSIDE, () -> x.replace(-1, 0, 4));
        due("replace refused: texts stay", "adc|dd", () -> texts(x));
        due("replace refused: nothing is saved", 2, () -> x.savedStates());
        BlockDistance small = with("ab", "a");
        small.setAlphabet(2);
        dueThrow("replace beyond the alphabet", WRONG, () -> small.replace(0, 0, 2));
    }

    private static void promise6Exchange() {
        BlockDistance x = with("abc", "d");
        due("exchange", 1, () -> x.exchange());
        due("exchange: texts", "d|abc", () -> texts(x));
        due("exchange again", 3, () -> x.exchange());
        due("exchange: saved", 3, () -> x.savedStates());
        due("exchange: undoable", 2, () -> x.undo());
        due("exchange undone", "d|abc", () -> texts(x));
        x.insert(0, 1, 2);
        due("exchange: the texts are not bound together", "dc|abc", () -> texts(x));
        BlockDistance empty = new BlockDistance();
        due("exchange of empty texts", 0, () -> empty.exchange());
        due("exchange of empty texts is saved", 1, () -> empty.savedStates());
    }

    private static void promise7SetAlphabet() {
        BlockDistance x = with("aba", "bb");
        due("setAlphabet 3", 4, () -> x.setAlphabet(3));
        due("setAlphabet 2", 3, () -> x.setAlphabet(2));
        due("setAlphabet 2 again", 2, () -> x.setAlphabet(2));
        due("setAlphabet: saved", 4, () -> x.savedStates());
        due("setAlphabet 4", 2, () -> x.setAlphabet(4));
        due("setAlphabet: undoable", 4, () -> x.undo());
        dueThrow("setAlphabet undone: letter 2", WRONG, () -> x.insert(0, 0, 2));
        dueThrow("setAlphabet 1", WRONG, () -> x.setAlphabet(1));
        dueThrow("setAlphabet 5", WRONG, () -> x.setAlphabet(5));
        dueThrow("setAlphabet least", WRONG, () -> x.setAlphabet(MIN));
        dueThrow("setAlphabet greatest", WRONG, () -> x.setAlphabet(MAX));
        due("setAlphabet refused: nothing is saved", 4, () -> x.savedStates());
        BlockDistance first = with("ac", "b");
        dueThrow("setAlphabet below text 0", NOT_NOW, () -> first.setAlphabet(2));
        first.replace(0, 0, 2);
        first.replace(0, 1, 0);
        dueThrow("setAlphabet below the first letter of text 0", NOT_NOW, () -> first.setAlphabet(2));
        due("setAlphabet that text 0 keeps to", 4, () -> first.setAlphabet(3));
        BlockDistance second = with("a", "bbd");
        dueThrow("setAlphabet below text 1", NOT_NOW, () -> second.setAlphabet(3));
        dueThrow("setAlphabet: range first", WRONG, () -> second.setAlphabet(0));
        due("setAlphabet below a text: alphabet stays", 4, () -> second.setAlphabet(4));
        due("setAlphabet below a text: nothing is saved", 2, () -> second.savedStates());
    }

    private static void promise8Length() {
        BlockDistance x = with("abc", TWENTY_B);
        due("length 0", 3, () -> x.length(0));
        due("length 1", 20, () -> x.length(1));
        dueThrow("length 2", OUTSIDE, () -> x.length(2));
        dueThrow("length -1", OUTSIDE, () -> x.length(-1));
        dueThrow("length least", OUTSIDE, () -> x.length(MIN));
    }

    private static void promise9Letter() {
        BlockDistance x = with("abcd", "dc");
        due("letter 0 0", 0, () -> x.letter(0, 0));
        due("letter 0 3", 3, () -> x.letter(0, 3));
        due("letter 1 0", 3, () -> x.letter(1, 0));
        due("letter 1 1", 2, () -> x.letter(1, 1));
        dueThrow("letter 0 4", OUTSIDE, () -> x.letter(0, 4));
        dueThrow("letter 1 2", OUTSIDE, () -> x.letter(1, 2));
        dueThrow("letter 0 -1", OUTSIDE, () -> x.letter(0, -1));
        dueThrow("letter 2 0", OUTSIDE, () -> x.letter(2, 0));
        dueThrow("letter -1 0", OUTSIDE, () -> x.letter(-1, 0));
        dueThrow("letter far outside", OUTSIDE, () -> x.letter(0, MAX));
        x.remove(0, 0);
        dueThrow("letter of the place that is left", OUTSIDE, () -> x.letter(0, 3));
    }

    private static void promise10Distance() {
        due("distance of empty texts", 0, () -> new BlockDistance().distance());
        due("distance to an empty text", 3, () -> with("abc", "").distance());
        due("distance from an empty text", 2, () -> with("", "ab").distance());
        due("distance of the same texts", 0, () -> with("abca", "abca").distance());
        due("distance by a replacement", 1, () -> with("abca", "abda").distance());
        due("distance by a deletion", 1, () -> with("abca", "aca").distance());
        due("distance by an insertion", 1, () -> with("abca", "abcda").distance());
        due("distance of turned texts", 2, () -> with("ab", "ba").distance());
        due("distance of the longest texts", 20, () -> with(TWENTY_A, TWENTY_B).distance());
        due("distance of shifted texts", 2, () -> with("abcdabcdabcdabcdabcd", "bcdabcdabcdabcdabcda").distance());
    }

    private static void promise11Prefix() {
        BlockDistance x = with("abcd", "bcd");
        due("prefix 0 0", 0, () -> x.prefix(0, 0));
        due("prefix 4 0", 4, () -> x.prefix(4, 0));
        due("prefix 0 3", 3, () -> x.prefix(0, 3));
        due("prefix 1 1", 1, () -> x.prefix(1, 1));
        due("prefix 2 1", 1, () -> x.prefix(2, 1));
        due("prefix 1 3", 3, () -> x.prefix(1, 3));
        due("prefix 4 3", 1, () -> x.prefix(4, 3));
        dueThrow("prefix 5 0", OUTSIDE, () -> x.prefix(5, 0));
        dueThrow("prefix 0 4", OUTSIDE, () -> x.prefix(0, 4));
        dueThrow("prefix -1 0", OUTSIDE, () -> x.prefix(-1, 0));
        dueThrow("prefix 0 -1", OUTSIDE, () -> x.prefix(0, -1));
        dueThrow("prefix far outside", OUTSIDE, () -> x.prefix(MAX, MIN));
        due("prefix of empty texts", 0, () -> new BlockDistance().prefix(0, 0));
        due("prefix of the longest texts", 20, () -> with(TWENTY_A, TWENTY_B).prefix(20, 20));
    }

    private static void promise12Steps() {
        due("steps of empty texts", 0, () -> new BlockDistance().steps());
        due("steps of one text", 20, () -> with(TWENTY_A, "").steps());
        due("steps of the same texts", 3, () -> with("abc", "abc").steps());
        due("steps of a deletion", 5, () -> with("abcab", "abcb").steps());
        due("steps that are more than the letters of a text", 5, () -> with("abcd", "bcda").steps());
        due("steps of long shifted texts", 26, () -> with("ddddddabaacbbbccabac", "abaacbbbccabacdddddd").steps());
    }

    private static void promise13Step() {
        due("way of a replacement", "010", () -> way(with("abc", "adc")));
        due("way of a deletion", "20", () -> way(with("ba", "a")));
        due("way of an insertion", "30", () -> way(with("a", "ba")));
        due("way: the corner goes before the deletion", "21", () -> way(with("ab", "c")));
        due("way: the corner goes before the insertion", "31", () -> way(with("a", "bc")));
        due("way: the corner goes first with the same letters", "20", () -> way(with("aa", "a")));
        due("way: the deletion goes before the insertion", "3002", () -> way(with("aba", "bab")));
        due("way of one text", "222", () -> way(with("abc", "")));
        due("way of the other text", "33", () -> way(with("", "ab")));
        BlockDistance x = with("abc", "adc");
        due("step behind the way", -1, () -> x.step(3));
        due("step far behind the way", -1, () -> x.step(MAX));
        dueThrow("step -1", OUTSIDE, () -> x.step(-1));
        dueThrow("step least", OUTSIDE, () -> x.step(MIN));
        due("step of no way", -1, () -> new BlockDistance().step(0));
    }

    private static void promise14Count() {
        BlockDistance x = with("abaa", "bacb");
        due("count: way", "20031", () -> way(x));
        due("count 0", 2, () -> x.count(0));
        due("count 1", 1, () -> x.count(1));
        due("count 2", 1, () -> x.count(2));
        due("count 3", 1, () -> x.count(3));
        dueThrow("count 4", OUTSIDE, () -> x.count(4));
        dueThrow("count -1", OUTSIDE, () -> x.count(-1));
        due("count of insertions", 2, () -> with("", "ab").count(3));
        due("count of deletions", 3, () -> with("abc", "").count(2));
        due("count of replacements", 20, () -> with(TWENTY_A, TWENTY_B).count(1));
    }

    private static void promise15Within() {
        BlockDistance x = with("abcd", "ba");
        due("within: distance", 3, () -> x.distance());
        due("within less", -1, () -> x.within(2));
        due("within just that", 3, () -> x.within(3));
        due("within more", 3, () -> x.within(20));
        due("within 0", -1, () -> x.within(0));
        due("within 0 of the same texts", 0, () -> with("ab", "ab").within(0));
        due("within 20 of the farthest texts", 20, () -> with(TWENTY_A, TWENTY_B).within(20));
        due("within 19 of the farthest texts", -1, () -> with(TWENTY_A, TWENTY_B).within(19));
        dueThrow("within -1", WRONG, () -> x.within(-1));
        dueThrow("within 21", WRONG, () -> x.within(21));
        dueThrow("within greatest", WRONG, () -> x.within(MAX));
    }

    private static void promise16Band() {
        BlockDistance x = with("abc", "abcda");
        due("band 0", 4, () -> x.band(0));
        due("band 1", 11, () -> x.band(1));
        due("band 2", 17, () -> x.band(2));
        due("band 5", 24, () -> x.band(5));
        due("band 20", 24, () -> x.band(20));
        x.exchange();
        due("band 1 of exchanged texts", 11, () -> x.band(1));
        due("band of empty texts", 1, () -> new BlockDistance().band(0));
        due("band of a long and an empty text", 4, () -> with(TWENTY_A, "").band(3));
        due("band of an empty and a long text", 4, () -> with("", TWENTY_A).band(3));
        due("band of the longest texts", 439, () -> with(TWENTY_A, TWENTY_A).band(19));
        dueThrow("band -1", WRONG, () -> x.band(-1));
        dueThrow("band 21", WRONG, () -> x.band(21));
        dueThrow("band least", WRONG, () -> x.band(MIN));
    }

    private static void promise17Similarity() {
        due("similarity of empty texts", 1.0, () -> new BlockDistance().similarity());
        due("similarity of the same texts", 1.0, () -> with("abc", "abc").similarity());
        due("similarity of other texts", 0.0, () -> with("a", "bb").similarity());
        due("similarity to an empty text", 0.0, () -> with("abc", "").similarity());
        due("similarity from an empty text", 0.0, () -> with("", "ab").similarity());
        due("similarity by the longer text", 1.0 - 2.0 / 5.0, () -> with("abcda", "abc").similarity());
        due("similarity by the longer text 1", 1.0 - 1.0 / 3.0, () -> with("ab", "abc").similarity());
        due("similarity, to the last digit", 1.0 - 18.0 / 20.0, () -> with(TWENTY_A, "aa" + "b".repeat(18)).similarity());
    }

    private static void promise18SetBlock() {
        BlockDistance x = with("aba", "bb");
        x.measure();
        x.measure();
        due("setBlock: table", "1 1 4", () -> table(x));
        due("setBlock 2 again", 2, () -> x.setBlock(2));
        due("setBlock again: table", "0 0 0", () -> table(x));
        x.measure();
        due("setBlock again: the keys are gone", "0 1 2", () -> table(x));
        BlockDistance ones = with("aa", "aa");
        ones.setBlock(1);
        ones.measure();
        ones.setBlock(1);
        ones.measure();
        due("setBlock 1 again: the keys are gone", "1 3 0", () -> table(ones));
        due("setBlock 1", 2, () -> x.setBlock(1));
        due("setBlock 1: table", "0 0 0", () -> table(x));
        due("setBlock 2", 1, () -> x.setBlock(2));
        x.measure();
        dueThrow("setBlock 0", WRONG, () -> x.setBlock(0));
        dueThrow("setBlock 3", WRONG, () -> x.setBlock(3));
        dueThrow("setBlock -1", WRONG, () -> x.setBlock(-1));
        dueThrow("setBlock greatest", WRONG, () -> x.setBlock(MAX));
        due("setBlock refused: table stays", "0 1 2", () -> table(x));
        due("setBlock is not undoable", 1, () -> x.savedStates());
        x.undo();
        due("undo leaves the block size", 2, () -> x.setBlock(2));
    }

    private static void promise19Measure() {
        due("measure of empty texts", 0, () -> new BlockDistance().measure());
        BlockDistance x = with("abca", "abda");
        due("measure", 1, () -> x.measure());
        x.setBlock(1);
        due("measure by blocks of 1", 1, () -> x.measure());
        due("measure is not undoable", 1, () -> x.savedStates());
        due("measure leaves the texts", "abca|abda", () -> texts(x));
        due("measure of odd texts", 3, () -> with("abcda", "bbd").measure());
        due("measure of one text", 3, () -> with("", "bbd").measure());
        due("measure of the longest texts", 20, () -> with(TWENTY_A, TWENTY_B).measure());
    }

    private static void promise20Hits() {
        BlockDistance x = with("aaaa", "aaaa");
        x.measure();
        due("hits within one measuring", 1, () -> x.hits());
        x.measure();
        due("hits of a second measuring", 5, () -> x.hits());
        BlockDistance one = with("aa", "aa");
        one.setBlock(1);
        one.measure();
        due("hits of blocks of 1", 1, () -> one.hits());
        one.undo();
        due("hits after undo", 1, () -> one.hits());
        append(one, "aa|aa");
        one.load();
        one.measure();
        due("hits of keys from before undo", 5, () -> one.hits());
        BlockDistance none = with("", "abab");
        none.measure();
        due("hits without blocks", 0, () -> none.hits());
    }

    private static void promise21Misses() {
        BlockDistance x = with("aaaa", "aaaa");
        x.measure();
        due("misses", 3, () -> x.misses());
        x.measure();
        due("misses of a second measuring", 3, () -> x.misses());
        x.replace(1, 0, 3);
        x.measure();
        due("misses grow with the letters of text 1", 7, () -> x.misses());
        BlockDistance turned = with("ab", "cd");
        turned.measure();
        turned.exchange();
        turned.measure();
        due("misses: the texts stand apart in the key", 2, () -> turned.misses());
        BlockDistance ones = with("abcd", "abcd");
        ones.setBlock(1);
        ones.measure();
        due("misses of blocks of 1", 16, () -> ones.misses());
        BlockDistance borders = with("aa", "baa");
        borders.setBlock(1);
        borders.measure();
        due("misses: the left and the upper border are in the key", "1 5 0", () -> table(borders));
    }

    private static void promise22SingleSteps() {
        BlockDistance x = with("abc", "abcda");
        x.measure();
        due("single steps of 3 and 5 letters", 7, () -> x.singleSteps());
        x.measure();
        due("single steps of a second measuring", 14, () -> x.singleSteps());
        x.setBlock(1);
        x.measure();
        due("single steps of blocks of 1", 0, () -> x.singleSteps());
        BlockDistance one = with("a", "b");
        one.measure();
        due("single steps of one letter each", "0 0 1", () -> table(one));
        BlockDistance row = with("a", "abab");
        row.measure();
        due("single steps of one row", "0 0 4", () -> table(row));
        BlockDistance even = with("abab", "ab");
        even.measure();
        due("single steps of even texts", 0, () -> even.singleSteps());
    }

    private static void promise23Across() {
        BlockDistance x = with("abc", "bca");
        due("across 0 1", 1, () -> x.across(0, 1));
        due("across 0 3", 1, () -> x.across(0, 3));
        due("across 2 1", -1, () -> x.across(2, 1));
        due("across 3 1", -1, () -> x.across(3, 1));
        due("across 3 3", 1, () -> x.across(3, 3));
        due("across 1 1", 0, () -> x.across(1, 1));
        dueThrow("across 0 0", OUTSIDE, () -> x.across(0, 0));
        dueThrow("across 0 4", OUTSIDE, () -> x.across(0, 4));
        dueThrow("across 4 1", OUTSIDE, () -> x.across(4, 1));
        dueThrow("across -1 1", OUTSIDE, () -> x.across(-1, 1));
        dueThrow("across far outside", OUTSIDE, () -> x.across(MAX, MAX));
        dueThrow("across far below", OUTSIDE, () -> x.across(0, MIN));
        dueThrow("across without text 1", OUTSIDE, () -> with("ab", "").across(0, 1));
        due("across without text 0", 1, () -> with("", "ab").across(0, 2));
    }

    private static void promise24FoundDistance() {
        due("foundDistance of empty texts", 0, () -> new BlockDistance().foundDistance());
        due("foundDistance of a part", 0, () -> with("ddabcdd", "abc").foundDistance());
        due("foundDistance of a like part", 1, () -> with("ddabddd", "abc").foundDistance());
        due("foundDistance of an empty text 1", 0, () -> with("abc", "").foundDistance());
        due("foundDistance of an empty text 0", 2, () -> with("", "ab").foundDistance());
        due("foundDistance in the shorter text", 2, () -> with("bc", "abcd").foundDistance());
        due("foundDistance of other letters", 3, () -> with("aaaa", "bbb").foundDistance());
    }

    private static void promise25FoundEnd() {
        due("foundEnd of empty texts", 0, () -> new BlockDistance().foundEnd());
        due("foundEnd of a part", 5, () -> with("ddabcdd", "abc").foundEnd());
        due("foundEnd: the least of several", 2, () -> with("ababab", "ab").foundEnd());
        due("foundEnd of other letters", 0, () -> with("aaaa", "bbb").foundEnd());
        due("foundEnd at the end", 4, () -> with("cdab", "ab").foundEnd());
        due("foundEnd of an empty text 1", 0, () -> with("abc", "").foundEnd());
        due("foundEnd of an empty text 0", 0, () -> with("", "ab").foundEnd());
        due("foundEnd of the longest texts", 20, () -> with("c" + "a".repeat(19), "a".repeat(19)).foundEnd());
    }

    private static void promise26IfReplaced() {
        BlockDistance x = with("abca", "abd");
        due("ifReplaced: distance", 2, () -> x.distance());
        due("ifReplaced for the better", 1, () -> x.ifReplaced(0, 2, 3));
        due("ifReplaced for the worse", 3, () -> x.ifReplaced(0, 0, 3));
        due("ifReplaced by the same letter", 2, () -> x.ifReplaced(0, 1, 1));
        due("ifReplaced in text 1", 1, () -> x.ifReplaced(1, 2, 2));
        due("ifReplaced changes nothing", "abca|abd", () -> texts(x));
        due("ifReplaced saves nothing", 1, () -> x.savedStates());
        due("ifReplaced against an empty text", 2, () -> with("ab", "").ifReplaced(0, 0, 1));
        due("ifReplaced of the longest texts", 19, () -> with(TWENTY_A, TWENTY_B).ifReplaced(1, 19, 0));
        BlockDistance longs = with(TWENTY_A, TWENTY_B);
        longs.ifReplaced(0, 0, 0);
        longs.exchange();
        due("ifReplaced of the longest texts, exchanged", 19, () -> longs.ifReplaced(1, 19, 1));
        dueThrow("ifReplaced at the end", OUTSIDE, () -> x.ifReplaced(0, 4, 0));
        dueThrow("ifReplaced at -1", OUTSIDE, () -> x.ifReplaced(0, -1, 0));
        dueThrow("ifReplaced in text 2", OUTSIDE, () -> x.ifReplaced(2, 0, 0));
        dueThrow("ifReplaced of letter 4", WRONG, () -> x.ifReplaced(0, 0, 4));
        dueThrow("ifReplaced of letter -1", WRONG, () -> x.ifReplaced(0, 0, -1));
        dueThrow("ifReplaced: index before letter", OUTSIDE, () -> x.ifReplaced(1, 3, 4));
        BlockDistance small = with("ab", "a");
        small.setAlphabet(2);
        dueThrow("ifReplaced beyond the alphabet", WRONG, () -> small.ifReplaced(0, 0, 2));
    }

    private static void promise27BestReplacement() {
        due("bestReplacement of an empty text", -1, () -> with("", "ab").bestReplacement(0));
        due("bestReplacement against an empty text", 0, () -> with("", "ab").bestReplacement(1));
        due("bestReplacement", 23, () -> with("abca", "abda").bestReplacement(0));
        due("bestReplacement in text 1", 22, () -> with("abca", "abda").bestReplacement(1));
        due("bestReplacement of the same texts", 1, () -> with("bc", "bc").bestReplacement(0));
        due("bestReplacement: the least of several", 1, () -> with("aaa", "bbb").bestReplacement(0));
        due("bestReplacement at a place above 9", 191, () -> with(TWENTY_A, "a".repeat(19) + "b").bestReplacement(0));
        BlockDistance x = with("ab", "cd");
        due("bestReplacement of four letters", 2, () -> x.bestReplacement(0));
        due("bestReplacement changes nothing", "ab|cd", () -> texts(x));
        due("bestReplacement saves nothing", 1, () -> x.savedStates());
        BlockDistance small = with("aa", "ab");
        small.setAlphabet(2);
        due("bestReplacement of two letters", 11, () -> small.bestReplacement(0));
        dueThrow("bestReplacement of text 2", OUTSIDE, () -> x.bestReplacement(2));
        dueThrow("bestReplacement of text -1", OUTSIDE, () -> x.bestReplacement(-1));
    }

    private static void promise28MissesToCome() {
        due("missesToCome of empty texts", 0, () -> new BlockDistance().missesToCome());
        BlockDistance x = with("aaaa", "aaaa");
        due("missesToCome", 3, () -> x.missesToCome());
        due("missesToCome again", 3, () -> x.missesToCome());
        due("missesToCome leaves the table", "0 0 0", () -> table(x));
        x.measure();
        due("missesToCome of a measured text", 0, () -> x.missesToCome());
        x.replace(1, 0, 3);
        due("missesToCome of new letters", 4, () -> x.missesToCome());
        due("missesToCome leaves the filled table", "1 3 0", () -> table(x));
        x.setBlock(1);
        due("missesToCome of blocks of 1", 6, () -> x.missesToCome());
        x.measure();
        due("missesToCome: misses that came", 6, () -> x.misses());
    }

    private static void promise29Append() {
        BlockDistance x = new BlockDistance();
        due("append of the first code", 1, () -> x.append(33));
        due("append of the last code", 2, () -> x.append(126));
        dueThrow("append 32", WRONG, () -> x.append(32));
        dueThrow("append 127", WRONG, () -> x.append(127));
        dueThrow("append -1", WRONG, () -> x.append(-1));
        dueThrow("append greatest", WRONG, () -> x.append(MAX));
        due("append refused: buffer stays", 3, () -> x.append('a'));
        append(x, "x".repeat(56));
        due("append of the character 60", 60, () -> x.append('|'));
        dueThrow("append to a full buffer", NOT_NOW, () -> x.append('a'));
        dueThrow("append: code before the full buffer", WRONG, () -> x.append(32));
        due("append is not undoable", 0, () -> x.savedStates());
        due("append to a full buffer: length", 60, () -> x.clearBuffer());
        due("append after clearing", 1, () -> x.append('a'));
    }

    private static void promise30ClearBuffer() {
        BlockDistance x = new BlockDistance();
        due("clearBuffer of an empty buffer", 0, () -> x.clearBuffer());
        append(x, "b!a");
        due("clearBuffer", 3, () -> x.clearBuffer());
        due("clearBuffer again", 0, () -> x.clearBuffer());
        append(x, "|a");
        due("clearBuffer: load of what came later", 1, () -> x.load());
        due("clearBuffer: texts", "|a", () -> texts(x));
        x.clearBuffer();
        due("clearBuffer is not undoable", 1, () -> x.savedStates());
    }

    private static int errorOf(String text) {
        BlockDistance x = new BlockDistance();
        append(x, text);
        return x.firstError();
    }

    private static void promise31FirstError() {
        due("firstError of an empty buffer", 0, () -> errorOf(""));
        due("firstError of a beginning", 3, () -> errorOf("abd"));
        due("firstError of an input text", 5, () -> errorOf("ab|cd"));
        due("firstError of a bar", 1, () -> errorOf("|"));
        due("firstError of a second bar", 2, () -> errorOf("a||"));
        due("firstError of a letter e", 1, () -> errorOf("ae|"));
        due("firstError of a great letter", 0, () -> errorOf("A|a"));
        due("firstError of a sign before a", 2, () -> errorOf("a|`"));
        due("firstError: the first of several", 1, () -> errorOf("a!b!||"));
        due("firstError of 20 letters", 20, () -> errorOf(TWENTY_A));
        due("firstError of 21 letters", 20, () -> errorOf(TWENTY_A + "a|"));
        due("firstError of 20 and 20 letters", 41, () -> errorOf(TWENTY_A + "|" + TWENTY_B));
        due("firstError of 20 and 21 letters", 41, () -> errorOf(TWENTY_A + "|" + TWENTY_B + "b"));
        due("firstError of 1 and 21 letters", 22, () -> errorOf("a|" + TWENTY_B + "b"));
        BlockDistance x = new BlockDistance();
        x.setAlphabet(2);
        append(x, "dc|d");
        due("firstError takes no look at the alphabet", 4, () -> x.firstError());
        due("firstError leaves the buffer", 4, () -> x.clearBuffer());
    }

    private static void promise32Undo() {
        BlockDistance x = new BlockDistance();
        dueThrow("undo of nothing", NOT_NOW, () -> x.undo());
        x.insert(0, 0, 1);
        x.setAlphabet(2);
        x.exchange();
        x.measure();
        append(x, "a");
        due("undo of exchange", 2, () -> x.undo());
        due("undo of exchange: texts", "b|", () -> texts(x));
        due("undo of setAlphabet", 1, () -> x.undo());
        due("undo of setAlphabet: alphabet", 4, () -> x.setAlphabet(4));
        due("undo of setAlphabet(4)", 1, () -> x.undo());
        due("undo of insert", 0, () -> x.undo());
        due("undo of insert: texts", "|", () -> texts(x));
        dueThrow("undo of no more", NOT_NOW, () -> x.undo());
        due("undo leaves the buffer", 1, () -> x.clearBuffer());
        for (int k = 0; k < 9; k++) {
            x.insert(1, k, k % 4);
        }
        for (int k = 5; k >= 0; k--) {
            int left = k;
            due("undo of the last six", left, () -> x.undo());
            due("undo of the last six: length", left + 3, () -> x.length(1));
        }
        dueThrow("undo of the seventh", NOT_NOW, () -> x.undo());
        due("undo of six of nine: texts", "|abc", () -> texts(x));
    }

    private static void promise32UndoKeepsTheTable() {
        BlockDistance x = with("ab", "ab");
        x.measure();
        x.setBlock(1);
        x.measure();
        String before = table(x);
        x.undo();
        due("undo leaves the table", before, () -> table(x));
        due("undo leaves the block size", 1, () -> x.setBlock(1));
        BlockDistance y = with("ab", "cd");
        y.replace(0, 0, 3);
        y.undo();
        y.replace(0, 1, 3);
        y.undo();
        due("a state that was undone is not kept bound", "ab|cd", () -> texts(y));
    }

    private static void promise33SavedStates() {
        BlockDistance x = new BlockDistance();
        for (int k = 1; k <= 8; k++) {
            int want = Math.min(k, 6);
            x.exchange();
            due("savedStates after " + k, want, () -> x.savedStates());
        }
        x.undo();
        due("savedStates after undo", 5, () -> x.savedStates());
        Checks.answerOf(() -> x.remove(0, 0));
        due("savedStates after a call that threw", 5, () -> x.savedStates());
        x.distance();
        x.measure();
        due("savedStates after calls that are not undoable", 5, () -> x.savedStates());
    }

    private static long hashOf(long... values) {
        long hash = 4194;
        for (long value : values) {
            hash = 31 * hash + value;
        }
        return hash;
    }

    private static void promise34Digest() {
        BlockDistance x = new BlockDistance();
        due("digest of empty texts", hashOf(4, 0, 0, 0, 0, 0, 0, 0, 0, 0, 0, -1, -1, 0), () -> x.digest());
        append(x, "ab|a");
        x.load();
        x.setAlphabet(3);
        long[] values = {3, 2, 0, 1, 1, 0, 1, 2, 0, 1, 0, 0, 0, 0, 0, 2, 0, 0, 0, 1, 1, 0, 2, 1};
        due("digest", hashOf(values), () -> x.digest());
        x.measure();
        values[12] = 2;
        due("digest of a measured text", hashOf(values), () -> x.digest());
        x.setBlock(1);
        values[12] = 0;
        values[13] = 2;
        due("digest of misses to come", hashOf(values), () -> x.digest());
        x.measure();
        values[11] = 2;
        values[13] = 0;
        due("digest of misses", hashOf(values), () -> x.digest());
        x.measure();
        values[10] = 2;
        due("digest of hits", hashOf(values), () -> x.digest());
        append(x, "xyz");
        due("digest takes no look at the buffer", hashOf(values), () -> x.digest());
        due("digest saves nothing", 2, () -> x.savedStates());
        x.exchange();
        long[] exchanged = {3, 1, 0, 2, 0, 1, 1, 2, 1, 1, 2, 2, 0, 1, 0, 3, 0, 0, 0, 1, 2, 1, 0, 1};
        due("digest of exchanged texts", hashOf(exchanged), () -> x.digest());
        x.replace(1, 0, 1);
        long[] other = {3, 1, 0, 2, 1, 1, 2, 2, 2, 0, 2, 2, 0, 2, 3, 1, 1, 0, 0, 1, 2, 1, 1, 2};
        due("digest of other texts", hashOf(other), () -> x.digest());
    }

    public static void main(String[] args) {
        promise1NewObject();
        promise2Load();
        promise2LoadRefused();
        promise3Insert();
        promise3InsertOrder();
        promise4Remove();
        promise5Replace();
        promise6Exchange();
        promise7SetAlphabet();
        promise8Length();
        promise9Letter();
        promise10Distance();
        promise11Prefix();
        promise12Steps();
        promise13Step();
        promise14Count();
        promise15Within();
        promise16Band();
        promise17Similarity();
        promise18SetBlock();
        promise19Measure();
        promise20Hits();
        promise21Misses();
        promise22SingleSteps();
        promise23Across();
        promise24FoundDistance();
        promise25FoundEnd();
        promise26IfReplaced();
        promise27BestReplacement();
        promise28MissesToCome();
        promise29Append();
        promise30ClearBuffer();
        promise31FirstError();
        promise32Undo();
        promise32UndoKeepsTheTable();
        promise33SavedStates();
        promise34Digest();
        checks.end();
    }
}
