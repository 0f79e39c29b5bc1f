import java.util.ArrayList;
import java.util.HashMap;
import java.util.HashSet;
import java.util.List;
import java.util.Map;
import java.util.Set;

/**
 * What the sentences under "Terms" say of all texts, tried with all short ones and without the formulas that the
 * program and the reference share: edits are made, ways are gone, borders are compared.
 */
public final class TermsTest {
    private static final int LETTERS = 2;

    private final Checks checks = new Checks("TermsTest");

    private static List<String> textsUpTo(int size) {
        List<String> texts = new ArrayList<>(List.of(""));
        for (int k = 0; k < texts.size(); k++) {
            if (texts.get(k).length() < size) {
                for (int letter = 0; letter < LETTERS; letter++) {
                    texts.add(texts.get(k) + (char) ('a' + letter));
                }
            }
        }
        return texts;
    }

    private static BlockDistance with(String first, String second) {
        return Scene.of(first, second).make();
    }

    private static Set<String> oneEditFrom(String text, int longest) {
        Set<String> edited = new HashSet<>();
        for (int k = 0; k <= text.length(); k++) {
            String ahead = text.substring(0, k);
            if (k < text.length()) {
                edited.add(ahead + text.substring(k + 1));
            }
            for (char c = 'a'; c < 'a' + LETTERS; c++) {
                if (k < text.length()) {
                    edited.add(ahead + c + text.substring(k + 1));
                }
                if (text.length() < longest) {
                    edited.add(ahead + c + text.substring(k));
                }
            }
        }
        return edited;
    }

    /** Each text that edits lead to, with the least number of them: all with one edit, then all with two, and so on. */
    private static Map<String, Integer> editsFrom(String text, int longest) {
        Map<String, Integer> least = new HashMap<>();
        least.put(text, 0);
        List<String> reached = new ArrayList<>(List.of(text));
        for (int k = 0; k < reached.size(); k++) {
            int edits = least.get(reached.get(k)) + 1;
            for (String next : oneEditFrom(reached.get(k), longest)) {
                if (least.putIfAbsent(next, edits) == null) {
                    reached.add(next);
                }
            }
        }
        return least;
    }

    // Promise 10: "the least number of edits by which the first i letters of text 0 become the first j letters of
    // text 1, where an edit deletes a letter, inserts a letter, or replaces one by another one"
    // Promise 19: measure "Returns the distance"; promise 15: within "Returns the distance"
    private void leastNumberOfEdits() {
        for (String first : textsUpTo(4)) {
            Map<String, Integer> edits = editsFrom(first, 5);
            for (String second : textsUpTo(4)) {
                int due = edits.get(second);
                String what = " of " + first + "|" + second;
                checks.due("10: distance" + what, due, () -> with(first, second).distance());
                checks.due("15: within 4" + what, due, () -> with(first, second).within(4));
                checks.due("19: measure" + what, due, () -> with(first, second).measure());
            }
        }
    }

    // Promise 13: "The way consists of these steps in the reverse order, that is from the beginnings of the texts to
    // their ends." Gone from the beginnings, it leads from text 0 to text 1, and its steps but 0 are the distance.
    private void waysLeadFromTextToText() {
        for (String first : textsUpTo(4)) {
            for (String second : textsUpTo(4)) {
                BlockDistance x = with(first, second);
                String way = Scene.way(x);
                String what = " of " + first + "|" + second;
                checks.due("13: the way " + way + what, first.length() + " " + second.length(),
                        () -> endOf(way, first, second));
                checks.due("14: steps that are edits" + what, x.distance(),
                        () -> x.count(1) + x.count(2) + x.count(3));
                checks.due("12: steps" + what, x.count(0) + x.distance(), () -> x.steps());
            }
        }
    }

    /** How far a way leads in both texts; a step 0 at other letters or a step 1 at the same ones leads nowhere. */
    private static String endOf(String way, String first, String second) {
        int i = 0;
        int j = 0;
        for (char step : way.toCharArray()) {
            if (step < '2' && (first.charAt(i) == second.charAt(j)) != (step == '0')) {
                return "a wrong step at " + i + " " + j;
            }
            i += step == '3' ? 0 : 1;
            j += step == '2' ? 0 : 1;
        }
        return i + " " + j;
    }

    // Promise 23: "Each of the differences is -1, 0 or 1, and together with the letters they decide the differences at
    // the lower and the right border of the block."
    private void keysDecideTheOtherBorders() {
        Map<String, String> borders = new HashMap<>();
        for (String first : textsUpTo(4)) {
            for (String second : textsUpTo(4)) {
                BlockDistance x = with(first, second);
                for (int i = 1; i < first.length(); i += 2) {
                    for (int j = 1; j < second.length(); j += 2) {
                        String letters = first.substring(i - 1, i + 1) + second.substring(j - 1, j + 1);
                        String key = letters + across(x, i - 1, j) + down(x, i, j - 1);
                        String other = across(x, i + 1, j) + down(x, i, j + 1);
                        checks.due("23: differences of " + key + other, true,
                                () -> (key.substring(4) + other).matches("( (-1|0|1)){8}"));
                        String met = borders.putIfAbsent(key, other);
                        checks.due("23: borders of " + key + " in " + first + "|" + second,
                                met == null ? other : met, () -> other);
                    }
                }
            }
        }
    }

    private static String across(BlockDistance x, int i, int j) {
        return " " + x.across(i, j) + " " + x.across(i, j + 1);
    }

    /** The difference down is told by the grid, for across() goes the other way. */
    private static String down(BlockDistance x, int i, int j) {
        return " " + (x.prefix(i, j) - x.prefix(i - 1, j)) + " " + (x.prefix(i + 1, j) - x.prefix(i, j));
    }

    // Promise 31: "A character of the buffer is an error if no input text, however long, begins with the characters
    // before it and this character." If an input text begins with them, they are one, or they are one with "|" behind.
    private void errorsOfTheBuffer() {
        List<String> buffers = new ArrayList<>(List.of(""));
        String signs = "ad|e";
        for (int k = 0; k < buffers.size(); k++) {
            String buffer = buffers.get(k);
            checks.due("31: firstError of " + buffer, errorOf(buffer), () -> firstErrorOf(buffer));
            for (int s = 0; s < signs.length() && buffer.length() < 4; s++) {
                buffers.add(buffer + signs.charAt(s));
            }
        }
        for (int size = 17; size <= 23; size++) {
            for (String tail : new String[] {"", "|", "d|", "||", "e", "|" + "b".repeat(20), "|" + "b".repeat(21)}) {
                String buffer = "c".repeat(size) + tail;
                checks.due("31: firstError of " + buffer, errorOf(buffer), () -> firstErrorOf(buffer));
            }
        }
    }

    private static int errorOf(String buffer) {
        for (int k = 0; k < buffer.length(); k++) {
            String begun = buffer.substring(0, k + 1);
            if (!isInputText(begun) && !isInputText(begun + "|")) {
                return k;
            }
        }
        return buffer.length();
    }

    private static boolean isInputText(String text) {
        String[] parts = text.split("\\|", -1);
        return parts.length == 2 && isText(parts[0]) && isText(parts[1]);
    }

    private static boolean isText(String part) {
        return part.length() <= 20 && part.chars().allMatch(c -> c >= 'a' && c <= 'd');
    }

    private static int firstErrorOf(String buffer) {
        BlockDistance x = new BlockDistance();
        Scene.append(x, buffer);
        return x.firstError();
    }

    // Promises 24 and 25: "the least distance between the first j letters of text 1 and a part of text 0 that ends
    // behind its letter i (the part can be empty, and begin anywhere)"
    private void bestPlaces() {
        for (String first : textsUpTo(4)) {
            for (String second : textsUpTo(3)) {
                int least = 99;
                int end = 0;
                for (int i = 0; i <= first.length(); i++) {
                    for (int begin = 0; begin <= i; begin++) {
                        int there = editsFrom(first.substring(begin, i), 4).get(second);
                        end = there < least ? i : end;
                        least = Math.min(least, there);
                    }
                }
                String what = " of " + first + "|" + second;
                checks.due("24: foundDistance" + what, least, () -> with(first, second).foundDistance());
                checks.due("25: foundEnd" + what, end, () -> with(first, second).foundEnd());
            }
        }
    }

    public static void main(String[] args) {
        TermsTest test = new TermsTest();
        test.leastNumberOfEdits();
        test.waysLeadFromTextToText();
        test.keysDecideTheOtherBorders();
        test.errorsOfTheBuffer();
        test.bestPlaces();
        test.checks.end();
    }
}
