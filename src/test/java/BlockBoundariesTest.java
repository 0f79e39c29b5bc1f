import java.util.function.Function;

/** Promises 18 to 23: a test for each sentence of the document that names an edge; the sentence stands ahead of it. */
public final class BlockBoundariesTest {
    private static final Boundary edge = new Boundary("BlockBoundariesTest");
    private static final int MIN = Boundary.MIN;
    private static final int MAX = Boundary.MAX;
    private static final String TWENTY_A = Scene.TWENTY_A;
    private static final String TWENTY_B = Scene.TWENTY_B;

    /** With a measuring behind it, so that there is a table to be emptied. */
    private static Scene measured(String first, String second, int size) {
        return Scene.of(first, second).then(x -> x.setBlock(size)).then(x -> x.measure());
    }

    // "size: 1 or 2" "Throws IllegalArgumentException if size is neither 1 nor 2"
    private static void promise18Range() {
        for (int size : new int[] {0, 3, -1, 4, MIN, MAX}) {
            for (Scene scene : Scene.ALL) {
                edge.refuses("18: block size " + size, scene, Boundary.WRONG, x -> x.setBlock(size));
            }
        }
        edge.answers("18: block size at first", Scene.NEW, 2, x -> x.setBlock(2));
        for (int before = 1; before <= 2; before++) {
            for (int after = 1; after <= 2; after++) {
                int first = before;
                int second = after;
                edge.answers("18: block size " + after + " for " + before, Scene.NEW.then(x -> x.setBlock(first)),
                        before + " " + after, x -> x.setBlock(second) + " " + x.setBlock(1));
            }
        }
    }

    // "The table is emptied, and these three numbers become 0, when the block size is set (also to the same one)."
    private static void promise18TheTableIsEmptied() {
        Function<BlockDistance, Object> again = x -> Scene.table(x) + ", then " + x.measure() + ": " + Scene.table(x);
        Scene two = measured("aaaaa", "aaaaa", 2);
        edge.answers("18: table of blocks of 2", two, "1 3 9", x -> Scene.table(x));
        edge.answers("18: size 2 again", two.then(x -> x.setBlock(2)), "0 0 0, then 0: 1 3 9", again);
        edge.answers("18: size 1 for 2", two.then(x -> x.setBlock(1)), "0 0 0, then 0: 22 3 0", again);
        edge.answers("18: size 1 for 2, and 2 again", two.then(x -> x.setBlock(1)).then(x -> x.setBlock(2)),
                "0 0 0, then 0: 1 3 9", again);
        Scene one = measured("aaaaa", "aaaaa", 1);
        edge.answers("18: table of blocks of 1", one, "22 3 0", x -> Scene.table(x));
        edge.answers("18: size 1 again", one.then(x -> x.setBlock(1)), "0 0 0, then 0: 22 3 0", again);
        edge.answers("18: size 2 for 1", one.then(x -> x.setBlock(2)), "0 0 0, then 0: 1 3 9", again);
        edge.answers("18: an empty table is emptied", Scene.NEW.then(x -> x.setBlock(2)), "0 0 0, then 0: 0 0 0", again);
    }

    // setBlock is not marked "Undoable"; "The table .. do not belong to the state."
    private static void promise18NotUndoable() {
        for (Scene scene : Scene.ALL) {
            edge.savesNone("18: setBlock(1)", scene, x -> x.setBlock(1));
            edge.savesNone("18: setBlock(2)", scene, x -> x.setBlock(2));
        }
        edge.answers("18: undo leaves the size", Scene.SOME.then(x -> x.setBlock(1)).then(x -> x.undo()), 1, x -> x.setBlock(2));
        edge.answers("18: undo leaves the empty table", Scene.SOME.then(x -> x.setBlock(2)).then(x -> x.undo()), "0 0 0",
                x -> Scene.table(x));
    }

    // "Measures by blocks. Returns the distance."
    private static void promise19EmptyAndFullTexts() {
        for (int size = 1; size <= 2; size++) {
            String name = " by blocks of " + size;
            edge.answers("19: empty texts" + name, measured("", "", size), "0 0 0 0", x -> x.measure() + " " + Scene.table(x));
            edge.answers("19: 20 letters and none" + name, measured(TWENTY_A, "", size), "20 0 0 0",
                    x -> x.measure() + " " + Scene.table(x));
            edge.answers("19: no letter and 20" + name, measured("", TWENTY_A, size), "20 0 0 0",
                    x -> x.measure() + " " + Scene.table(x));
            edge.answers("19: other full texts" + name, measured(TWENTY_A, TWENTY_B, size), 20, x -> x.measure());
            edge.answers("19: the same full texts" + name, measured(TWENTY_A, TWENTY_A, size), 0, x -> x.measure());
            edge.answers("19: odd texts" + name, measured("abcda", "bbd", size), 3, x -> x.measure());
        }
        edge.answers("19: the call at first", Scene.NEW, 0, x -> x.measure());
        edge.answers("19: it goes through all blocks", Scene.of("aaaaa", "aaaaa"), "0 1 3 9", x -> x.measure() + " "
                + Scene.table(x));
    }

    // measure is not marked "Undoable"
    private static void promise19NotUndoable() {
        for (Scene scene : Scene.ALL) {
            edge.savesNone("19: measure", scene, x -> x.measure());
            edge.due("19: measure leaves the buffer", scene.bufferLook(), () -> scene.then(x -> x.measure()).bufferLook());
        }
        edge.answers("19: measure, and the undo of the call before it", Scene.SOME.then(x -> x.measure()), "2 abdca|bda",
                x -> x.undo() + " " + Scene.texts(x));
    }

    // "If a block with the same key was met before, since the table was empty, this is a hit"
    private static void promise20SinceTheTableWasEmpty() {
        Scene scene = Scene.of("aaaa", "aaaa");
        edge.answers("20: hits at first", scene, 0, x -> x.hits());
        edge.answers("20: hits of the first measuring", scene.then(x -> x.measure()), 1, x -> x.hits());
        edge.answers("20: hits of the second measuring", scene.then(x -> x.measure()).then(x -> x.measure()), 5, x -> x.hits());
        edge.answers("20: hits behind setBlock", scene.then(x -> x.measure()).then(x -> x.setBlock(2)).then(x -> x.measure()),
                1, x -> x.hits());
        edge.answers("20: hits of one block", measured("ab", "cd", 2).then(x -> x.measure()), "1 1 0", x -> Scene.table(x));
        edge.answers("20: hits of one pair", measured("a", "c", 1).then(x -> x.measure()), "1 1 0", x -> Scene.table(x));
        edge.answers("20: hits of full texts by blocks of 2", measured(TWENTY_A, TWENTY_A, 2), "97 3 0", x -> Scene.table(x));
        edge.answers("20: hits of full texts by blocks of 1", measured(TWENTY_A, TWENTY_A, 1), "397 3 0", x -> Scene.table(x));
        edge.changesNothing("20: hits", Scene.SOME, x -> x.hits());
    }

    // "The table with its keys, the hits, the misses and the single steps do not belong to the state."
    private static void promise20CallsThatLeaveTheTable() {
        Scene scene = measured("aaaaa", "aaaaa", 2).withBuffer("c|d");
        edge.answers("20: table left by load", scene.then(x -> x.load()), "1 3 9", x -> Scene.table(x));
        edge.answers("20: table left by insert", scene.then(x -> x.insert(0, 0, 1)), "1 3 9", x -> Scene.table(x));
        edge.answers("20: table left by remove", scene.then(x -> x.remove(1, 0)), "1 3 9", x -> Scene.table(x));
        edge.answers("20: table left by replace", scene.then(x -> x.replace(1, 0, 3)), "1 3 9", x -> Scene.table(x));
        edge.answers("20: table left by exchange", scene.then(x -> x.exchange()), "1 3 9", x -> Scene.table(x));
        edge.answers("20: table left by setAlphabet", scene.then(x -> x.setAlphabet(2)), "1 3 9", x -> Scene.table(x));
        edge.answers("20: table left by clearBuffer", scene.then(x -> x.clearBuffer()), "1 3 9", x -> Scene.table(x));
        edge.answers("20: table left by append", scene.then(x -> x.append('b')), "1 3 9", x -> Scene.table(x));
        edge.answers("20: table left by undo", scene.then(x -> x.undo()), "1 3 9", x -> Scene.table(x));
        edge.answers("20: keys left by load and undo", scene.then(x -> x.load()).then(x -> x.undo()).then(x -> x.measure()),
                "5 3 18", x -> Scene.table(x));
        edge.answers("20: keys left by two undos", scene.then(x -> x.exchange()).then(x -> x.undo()).then(x -> x.undo())
                .withBuffer("aa|aa").then(x -> x.load()).then(x -> x.measure()), "2 3 9", x -> Scene.table(x));
    }

    // "otherwise it is a miss, and the key is entered into the table" ".. which is the number of keys in the table"
    private static void promise21NumberOfKeys() {
        edge.answers("21: misses at first", Scene.NEW, 0, x -> x.misses());
        edge.answers("21: misses of one block", measured("ab", "cd", 2), 1, x -> x.misses());
        Scene many = measured("abcd", "abcd", 1);
        edge.answers("21: misses of sixteen pairs", many, 16, x -> x.misses());
        edge.answers("21: misses of the same pairs again", many.then(x -> x.measure()), 16, x -> x.misses());
        edge.answers("21: misses of a part of them", many.then(x -> x.remove(0, 3)).then(x -> x.measure()), 16, x -> x.misses());
        edge.answers("21: misses of full texts", measured(TWENTY_A, TWENTY_B, 2), 3, x -> x.misses());
        edge.changesNothing("21: misses", Scene.SOME, x -> x.misses());
    }

    /*
     * "the key consists of the t letters of text 0 .., the t letters of text 1 .., the differences .., and the
     * differences ..": with any one of these left out, or the place of the block taken in, these numbers are others.
     */
    private static void promise21WhatIsInTheKey() {
        edge.answers("21: keys of blocks of 1", measured("bba", "bba", 1), "3 6 0", x -> Scene.table(x));
        edge.answers("21: keys of blocks of 1, three letters", measured("cca", "baa", 1), "2 7 0", x -> Scene.table(x));
        edge.answers("21: keys of blocks of 1, four letters", measured("cbb", "aad", 1), "2 7 0", x -> Scene.table(x));
        edge.answers("21: keys of blocks of 2", measured("bababbabb", "ababaabaa", 2), "2 14 17", x -> Scene.table(x));
        edge.answers("21: keys of blocks of 2, three letters", measured("cbcbbcbbab", "bcbbbcbccc", 2), "2 23 0",
                x -> Scene.table(x));
        edge.answers("21: keys of blocks of 2, four letters", measured("dadaccaacd", "babdbdbdad", 2), "4 21 0",
                x -> Scene.table(x));
    }

    // "(Each of the differences is -1, 0 or 1 ..)": blocks with none but the least ones, none but the greatest ones
    private static void promise21LeastAndGreatestDifferences() {
        edge.answers("21: least differences, first letters", measured("aabbaaaa", "bbaaaabbaa", 2), "5 15 0", x -> Scene.table(x));
        edge.answers("21: least differences, measured again", measured("aabbaaaa", "bbaaaabbaa", 2).then(x -> x.measure()),
                "25 15 0", x -> Scene.table(x));
        edge.answers("21: least differences by blocks of 1", measured("abaa", "baaba", 1).then(x -> x.measure()), "25 15 0",
                x -> Scene.table(x));
        edge.answers("21: greatest differences, last letters", measured("dddd", "dddd", 2), "1 3 0", x -> Scene.table(x));
        edge.answers("21: greatest differences, measured again", measured("dddd", "dddd", 2).then(x -> x.measure()), "5 3 0",
                x -> Scene.table(x));
        edge.answers("21: greatest differences by blocks of 1", measured("dd", "dd", 1).then(x -> x.measure()), "5 3 0",
                x -> Scene.table(x));
    }

    // "the key consists of the t letters of text 0 .., the t letters of text 1": no pair of letters is like another one
    private static void promise21EachPairOfLetters() {
        for (int size = 1; size <= 2; size++) {
            int t = size;
            Scene scene = Scene.NEW.then(x -> x.setBlock(t));
            for (int pair = 0; pair < 16; pair++) {
                String first = "abcd".substring(pair / 4, pair / 4 + 1).repeat(2 * t);
                String second = "abcd".substring(pair % 4, pair % 4 + 1).repeat(2 * t);
                scene = scene.withBuffer(first + "|" + second).then(x -> x.load()).then(x -> x.measure());
                edge.answers("21: keys up to " + first + "|" + second, scene, (pair + 1) + " " + 3 * (pair + 1) + " 0",
                        x -> Scene.table(x));
            }
        }
    }

    // "Blocks at the lower and at the right end can have fewer pairs; a block with t times t pairs is whole."
    private static void promise22BlocksAtTheEnds() {
        for (int m = 0; m <= 20; m++) {
            for (int n = 0; n <= 20; n++) {
                int whole = (m / 2) * (n / 2);
                int single = m * n - 4 * whole;
                Scene two = measured("a".repeat(m), "b".repeat(n), 2);
                edge.answers("22: blocks of 2 in " + m + " and " + n, two, whole + " " + single,
                        x -> (x.hits() + x.misses()) + " " + x.singleSteps());
                Scene one = measured("a".repeat(m), "b".repeat(n), 1);
                edge.answers("22: blocks of 1 in " + m + " and " + n, one, m * n + " 0",
                        x -> (x.hits() + x.misses()) + " " + x.singleSteps());
            }
        }
    }

    // "For a block that is not whole, the number of single steps increases by the number of its pairs."
    private static void promise22NumberOfPairs() {
        edge.answers("22: single steps at first", Scene.NEW, 0, x -> x.singleSteps());
        edge.answers("22: single steps before a measuring", Scene.of("a", "b"), 0, x -> x.singleSteps());
        edge.answers("22: the only pair", measured("a", "b", 2), "0 0 1", x -> Scene.table(x));
        edge.answers("22: a block of one row", measured("a", "ab", 2), "0 0 2", x -> Scene.table(x));
        edge.answers("22: a block of one column", measured("ab", "a", 2), "0 0 2", x -> Scene.table(x));
        edge.answers("22: a whole block", measured("ab", "ab", 2), "0 1 0", x -> Scene.table(x));
        edge.answers("22: the right end", measured("ab", "abc", 2), "0 1 2", x -> Scene.table(x));
        edge.answers("22: the lower end", measured("abc", "ab", 2), "0 1 2", x -> Scene.table(x));
        edge.answers("22: both ends and the corner", measured("abc", "abd", 2), "0 1 5", x -> Scene.table(x));
        edge.answers("22: both ends, measured again", measured("abc", "abd", 2).then(x -> x.measure()), "1 1 10",
                x -> Scene.table(x));
        edge.answers("22: 19 and 19 letters", measured("a".repeat(19), "b".repeat(19), 2), 37, x -> x.singleSteps());
        edge.changesNothing("22: singleSteps", measured("abc", "abd", 2), x -> x.singleSteps());
    }

    // "i: 0 to the number of letters of text 0" "j: 1 to the number of letters of text 1"
    private static void promise23Range() {
        Scene scene = Scene.of("abcd", "bc");
        edge.answers("23: d(0, 1) - d(0, 0)", scene, 1, x -> x.across(0, 1));
        edge.answers("23: d(0, 2) - d(0, 1)", scene, 1, x -> x.across(0, 2));
        edge.answers("23: d(4, 1) - d(4, 0)", scene, -1, x -> x.across(4, 1));
        edge.answers("23: d(4, 2) - d(4, 1)", scene, -1, x -> x.across(4, 2));
        edge.answers("23: d(1, 1) - d(1, 0)", scene, 0, x -> x.across(1, 1));
        edge.answers("23: d(20, 20) - d(20, 19)", Scene.of(TWENTY_A, TWENTY_A), -1, x -> x.across(20, 20));
        edge.answers("23: d(19, 20) - d(19, 19)", Scene.of(TWENTY_A, TWENTY_A), 1, x -> x.across(19, 20));
        edge.answers("23: d(0, 20) - d(0, 19)", Scene.of("", TWENTY_A), 1, x -> x.across(0, 20));
        edge.changesNothing("23: across", Scene.SOME, x -> x.across(1, 1));
    }

    // "Throws IndexOutOfBoundsException if i or j is out of range"
    private static void promise23OutOfRange() {
        Scene scene = Scene.of("abcd", "bc");
        for (int i : new int[] {-1, 5, 6, 20, 21, MIN, MAX}) {
            edge.refuses("23: across(" + i + ", 1) of 4 and 2 letters", scene, Boundary.OUTSIDE, x -> x.across(i, 1));
            edge.refuses("23: across(" + i + ", 2) of 4 and 2 letters", scene, Boundary.OUTSIDE, x -> x.across(i, 2));
            edge.refuses("23: across(" + i + ", 0) of 4 and 2 letters", scene, Boundary.OUTSIDE, x -> x.across(i, 0));
        }
        for (int j : new int[] {0, -1, 3, 4, 20, 21, MIN, MIN + 1, MAX}) {
            edge.refuses("23: across(0, " + j + ") of 4 and 2 letters", scene, Boundary.OUTSIDE, x -> x.across(0, j));
            edge.refuses("23: across(4, " + j + ") of 4 and 2 letters", scene, Boundary.OUTSIDE, x -> x.across(4, j));
        }
        edge.refuses("23: across(0, 0) of empty texts", Scene.NEW, Boundary.OUTSIDE, x -> x.across(0, 0));
        edge.refuses("23: across(0, 1) of empty texts", Scene.NEW, Boundary.OUTSIDE, x -> x.across(0, 1));
        edge.refuses("23: across(0, 1) without text 1", Scene.of("ab", ""), Boundary.OUTSIDE, x -> x.across(0, 1));
        edge.refuses("23: across(1, 1) without text 0", Scene.of("", "ab"), Boundary.OUTSIDE, x -> x.across(1, 1));
        edge.refuses("23: across(21, 20)", Scene.FULL, Boundary.OUTSIDE, x -> x.across(21, 20));
        edge.refuses("23: across(20, 21)", Scene.FULL, Boundary.OUTSIDE, x -> x.across(20, 21));
        edge.refuses("23: across(20, 0)", Scene.FULL, Boundary.OUTSIDE, x -> x.across(20, 0));
    }

    public static void main(String[] args) {
        promise18Range();
        promise18TheTableIsEmptied();
        promise18NotUndoable();
        promise19EmptyAndFullTexts();
        promise19NotUndoable();
        promise20SinceTheTableWasEmpty();
        promise20CallsThatLeaveTheTable();
        promise21NumberOfKeys();
        promise21WhatIsInTheKey();
        promise21LeastAndGreatestDifferences();
        promise21EachPairOfLetters();
        promise22BlocksAtTheEnds();
        promise22NumberOfPairs();
        promise23Range();
        promise23OutOfRange();
        edge.end();
    }
}
