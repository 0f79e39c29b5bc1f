/** Promises 10 to 17: a test for each sentence of the document that names an edge; the sentence stands ahead of it. */
public final class DistanceBoundariesTest {
    private static final Boundary edge = new Boundary("DistanceBoundariesTest");
    private static final int MIN = Boundary.MIN;
    private static final int MAX = Boundary.MAX;
    private static final String TWENTY_A = Scene.TWENTY_A;
    private static final String TWENTY_B = Scene.TWENTY_B;
    private static final String LONG_LEFT = "ddddddabaacbbbccabac";
    private static final String LONG_RIGHT = "abaacbbbccabacdddddd";

    // "So d(i, 0) is i, d(0, j) is j"
    private static void promise10EmptyTexts() {
        edge.answers("10: distance of empty texts", Scene.NEW, 0, x -> x.distance());
        edge.answers("10: distance of one letter and none", Scene.of("c", ""), 1, x -> x.distance());
        edge.answers("10: distance of no letter and one", Scene.of("", "c"), 1, x -> x.distance());
        edge.answers("10: distance of 20 letters and none", Scene.of(TWENTY_A, ""), 20, x -> x.distance());
        edge.answers("10: distance of no letter and 20", Scene.of("", TWENTY_B), 20, x -> x.distance());
    }

    // ".. plus 0 if the letter i of text 0 is the letter j of text 1 .., or plus 1 if not"
    private static void promise10SameAndOtherLetters() {
        edge.answers("10: distance of the same letter", Scene.of("c", "c"), 0, x -> x.distance());
        edge.answers("10: distance of other letters", Scene.of("c", "d"), 1, x -> x.distance());
        edge.answers("10: distance of turned letters", Scene.of("ab", "ba"), 2, x -> x.distance());
        edge.answers("10: distance of the same full texts", Scene.of(LONG_LEFT, LONG_LEFT), 0, x -> x.distance());
        edge.answers("10: distance of other full texts", Scene.of(TWENTY_A, TWENTY_B), 20, x -> x.distance());
        edge.answers("10: distance at the first of 20 letters", Scene.of("b" + "a".repeat(19), TWENTY_A), 1, x -> x.distance());
        edge.answers("10: distance at the last of 20 letters", Scene.of(TWENTY_A, "a".repeat(19) + "d"), 1, x -> x.distance());
        edge.answers("10: distance of moved full texts", Scene.of(LONG_LEFT, LONG_RIGHT), 12, x -> x.distance());
        for (Scene scene : Scene.ALL) {
            edge.changesNothing("10: distance", scene, x -> x.distance());
        }
    }

    // "i: 0 to the number of letters of text 0" "j: 0 to the number of letters of text 1"
    private static void promise11Range() {
        Scene scene = Scene.of("abcd", "bc");
        edge.answers("11: d(0, 0)", scene, 0, x -> x.prefix(0, 0));
        edge.answers("11: d(4, 0)", scene, 4, x -> x.prefix(4, 0));
        edge.answers("11: d(0, 2)", scene, 2, x -> x.prefix(0, 2));
        edge.answers("11: d(4, 2)", scene, 2, x -> x.prefix(4, 2));
        edge.answers("11: d(3, 2)", scene, 1, x -> x.prefix(3, 2));
        edge.answers("11: d(2, 1)", scene, 1, x -> x.prefix(2, 1));
        edge.answers("11: d(20, 20)", Scene.of(TWENTY_A, TWENTY_B), 20, x -> x.prefix(20, 20));
        edge.answers("11: d(20, 0)", Scene.of(TWENTY_A, TWENTY_B), 20, x -> x.prefix(20, 0));
        edge.answers("11: d(0, 20)", Scene.of(TWENTY_A, TWENTY_B), 20, x -> x.prefix(0, 20));
        edge.answers("11: d(0, 0) of empty texts", Scene.NEW, 0, x -> x.prefix(0, 0));
        edge.changesNothing("11: prefix", Scene.SOME, x -> x.prefix(1, 1));
    }

    // "Throws IndexOutOfBoundsException if i or j is out of range"
    private static void promise11OutOfRange() {
        Scene scene = Scene.of("abcd", "bc");
        for (int i : new int[] {-1, 5, 6, 20, 21, MIN, MAX}) {
            edge.refuses("11: d(" + i + ", 0) of 4 and 2 letters", scene, Boundary.OUTSIDE, x -> x.prefix(i, 0));
            edge.refuses("11: d(" + i + ", 2) of 4 and 2 letters", scene, Boundary.OUTSIDE, x -> x.prefix(i, 2));
        }
        for (int j : new int[] {-1, 3, 4, 20, 21, MIN, MAX}) {
            edge.refuses("11: d(0, " + j + ") of 4 and 2 letters", scene, Boundary.OUTSIDE, x -> x.prefix(0, j));
            edge.refuses("11: d(4, " + j + ") of 4 and 2 letters", scene, Boundary.OUTSIDE, x -> x.prefix(4, j));
            edge.refuses("11: d(-1, " + j + ")", scene, Boundary.OUTSIDE, x -> x.prefix(-1, j));
        }
        edge.refuses("11: d(1, 0) of empty texts", Scene.NEW, Boundary.OUTSIDE, x -> x.prefix(1, 0));
        edge.refuses("11: d(0, 1) of empty texts", Scene.NEW, Boundary.OUTSIDE, x -> x.prefix(0, 1));
        edge.refuses("11: d(21, 20)", Scene.FULL, Boundary.OUTSIDE, x -> x.prefix(21, 20));
        edge.refuses("11: d(20, 21)", Scene.FULL, Boundary.OUTSIDE, x -> x.prefix(20, 21));
        edge.refuses("11: d(-1, 20)", Scene.FULL, Boundary.OUTSIDE, x -> x.prefix(-1, 20));
        edge.refuses("11: d(20, -1)", Scene.FULL, Boundary.OUTSIDE, x -> x.prefix(20, -1));
    }

    // ".. as long as i or j is greater than 0"
    private static void promise12NoStepAndManySteps() {
        edge.answers("12: steps of empty texts", Scene.NEW, 0, x -> x.steps());
        edge.answers("12: steps of one letter and none", Scene.of("a", ""), 1, x -> x.steps());
        edge.answers("12: steps of no letter and one", Scene.of("", "a"), 1, x -> x.steps());
        edge.answers("12: steps of 20 letters and none", Scene.of(TWENTY_A, ""), 20, x -> x.steps());
        edge.answers("12: steps of no letter and 20", Scene.of("", TWENTY_A), 20, x -> x.steps());
        edge.answers("12: steps of the same full texts", Scene.of(TWENTY_A, TWENTY_A), 20, x -> x.steps());
        edge.answers("12: steps of other full texts", Scene.of(TWENTY_A, TWENTY_B), 20, x -> x.steps());
        edge.answers("12: more steps than a text has letters", Scene.of(LONG_LEFT, LONG_RIGHT), 26, x -> x.steps());
        for (Scene scene : Scene.ALL) {
            edge.changesNothing("12: steps", scene, x -> x.steps());
        }
    }

    // "index: 0 for the first step" "NONE if the way has not so many steps"
    private static void promise13FirstAndLastStep() {
        Scene scene = Scene.of("dabc", "abca");
        edge.answers("13: way", scene, "20003", x -> Scene.way(x));
        edge.answers("13: step 0", scene, 2, x -> x.step(0));
        edge.answers("13: step 4, the last", scene, 3, x -> x.step(4));
        edge.answers("13: step 5, behind the last", scene, -1, x -> x.step(5));
        edge.answers("13: step 6", scene, -1, x -> x.step(6));
        edge.answers("13: the greatest step", scene, -1, x -> x.step(MAX));
        edge.answers("13: step 0 of no steps", Scene.NEW, -1, x -> x.step(0));
        edge.answers("13: step 1 of no steps", Scene.NEW, -1, x -> x.step(1));
        Scene full = Scene.of(LONG_LEFT, LONG_RIGHT);
        edge.answers("13: step 25 of 26", full, 3, x -> x.step(25));
        for (int index : new int[] {26, 27, 39, 40, 41, 60, MAX}) {
            edge.answers("13: step " + index + " of 26", full, -1, x -> x.step(index));
        }
        edge.changesNothing("13: step", Scene.SOME, x -> x.step(0) + x.step(MAX));
    }

    // "Throws IndexOutOfBoundsException if index is negative"
    private static void promise13NegativeIndex() {
        for (int index : new int[] {-1, -2, MIN}) {
            for (Scene scene : Scene.ALL) {
                edge.refuses("13: step " + index, scene, Boundary.OUTSIDE, x -> x.step(index));
            }
        }
    }

    // "by the first of these steps that is possible" ".. in the reverse order"
    private static void promise13WhichStepOfSeveral() {
        edge.answers("13: same letters go before a deletion", Scene.of("aa", "a"), "20", x -> Scene.way(x));
        edge.answers("13: same letters go before an insertion", Scene.of("a", "aa"), "30", x -> Scene.way(x));
        edge.answers("13: a replacement goes before a deletion", Scene.of("ab", "c"), "21", x -> Scene.way(x));
        edge.answers("13: a replacement goes before an insertion", Scene.of("a", "bc"), "31", x -> Scene.way(x));
        edge.answers("13: two replacements go before both", Scene.of("ab", "ba"), "11", x -> Scene.way(x));
        edge.answers("13: a deletion goes before an insertion", Scene.of("aba", "bab"), "3002", x -> Scene.way(x));
        edge.answers("13: a deletion goes before an insertion, turned", Scene.of("bab", "aba"), "3002", x -> Scene.way(x));
        edge.answers("13: an insertion that alone is possible", Scene.of("ab", "abc"), "003", x -> Scene.way(x));
        edge.answers("13: deletions when text 1 is empty", Scene.of("abcd", ""), "2222", x -> Scene.way(x));
        edge.answers("13: insertions when text 0 is empty", Scene.of("", "abcd"), "3333", x -> Scene.way(x));
        edge.answers("13: text 0 goes on when text 1 is at its end", Scene.of("ba", "a"), "20", x -> Scene.way(x));
        edge.answers("13: text 1 goes on when text 0 is at its end", Scene.of("a", "cba"), "330", x -> Scene.way(x));
    }

    // "kind: 0 to 3" "Throws IndexOutOfBoundsException if there is no such kind"
    private static void promise14Kinds() {
        Scene scene = Scene.of("abaa", "bacb");
        edge.answers("14: way", scene, "20031", x -> Scene.way(x));
        edge.answers("14: kind 0", scene, 2, x -> x.count(0));
        edge.answers("14: kind 1", scene, 1, x -> x.count(1));
        edge.answers("14: kind 2", scene, 1, x -> x.count(2));
        edge.answers("14: kind 3", scene, 1, x -> x.count(3));
        for (int kind : new int[] {-1, 4, 5, -2, MIN, MAX}) {
            for (Scene refusing : Scene.ALL) {
                edge.refuses("14: kind " + kind, refusing, Boundary.OUTSIDE, x -> x.count(kind));
            }
        }
        edge.changesNothing("14: count", Scene.SOME, x -> x.count(0));
    }

    // "Returns the number of steps of a kind in the way."
    private static void promise14NoneAndAll() {
        Scene[] scenes = {Scene.NEW, Scene.of(TWENTY_B, TWENTY_B), Scene.of(TWENTY_A, TWENTY_B), Scene.of(TWENTY_A, ""),
            Scene.of("", TWENTY_B)};
        String[] counts = {"0 0 0 0", "20 0 0 0", "0 20 0 0", "0 0 20 0", "0 0 0 20"};
        for (int k = 0; k < scenes.length; k++) {
            edge.answers("14: counts in scene " + k, scenes[k], counts[k],
                    x -> x.count(0) + " " + x.count(1) + " " + x.count(2) + " " + x.count(3));
        }
    }

    // "bound: 0 to 20" "Throws IllegalArgumentException if bound is out of range"
    private static void promise15Range() {
        for (int bound : new int[] {-1, 21, 22, -20, MIN, MAX}) {
            for (Scene scene : Scene.ALL) {
                edge.refuses("15: within " + bound, scene, Boundary.WRONG, x -> x.within(bound));
            }
        }
        edge.answers("15: within 0 of empty texts", Scene.NEW, 0, x -> x.within(0));
        edge.answers("15: within 20 of empty texts", Scene.NEW, 0, x -> x.within(20));
        edge.changesNothing("15: within", Scene.SOME, x -> x.within(0) + x.within(20));
    }

    // "Returns the distance; NONE if it is greater than bound."
    private static void promise15AtTheBound() {
        for (int far = 0; far <= 20; far++) {
            Scene scene = Scene.of("a".repeat(20 - far) + "c".repeat(far), TWENTY_A);
            for (int bound = 0; bound <= 20; bound++) {
                int asked = bound;
                edge.answers("15: distance " + far + " within " + bound, scene, far <= bound ? far : -1, x -> x.within(asked));
            }
        }
    }

    // "bound: 0 to 20" "Throws IllegalArgumentException if bound is out of range"
    private static void promise16Range() {
        for (int bound : new int[] {-1, 21, 22, -20, MIN, MAX}) {
            for (Scene scene : Scene.ALL) {
                edge.refuses("16: band " + bound, scene, Boundary.WRONG, x -> x.band(bound));
            }
        }
        edge.changesNothing("16: band", Scene.SOME, x -> x.band(0) + x.band(20));
    }

    private static int pairsOf(int m, int n, int bound) {
        int pairs = 0;
        for (int i = 0; i <= m; i++) {
            for (int j = 0; j <= n; j++) {
                if (i - j >= -bound && i - j <= bound) {
                    pairs++;
                }
            }
        }
        return pairs;
    }

    // ".. pairs (i, j) with i from 0 to m and j from 0 to n whose difference i - j is from -bound to bound"
    private static void promise16Pairs() {
        int[] sizes = {0, 1, 2, 3, 7, 19, 20};
        for (int m : sizes) {
            for (int n : sizes) {
                Scene scene = Scene.of("a".repeat(m), "c".repeat(n));
                for (int bound = 0; bound <= 20; bound++) {
                    int asked = bound;
                    edge.answers("16: band " + bound + " of " + m + " and " + n, scene, pairsOf(m, n, bound),
                            x -> x.band(asked));
                }
            }
        }
        edge.answers("16: band 0 of empty texts", Scene.NEW, 1, x -> x.band(0));
        edge.answers("16: band 0 of full texts", Scene.FULL, 21, x -> x.band(0));
        edge.answers("16: band 19 of full texts", Scene.FULL, 439, x -> x.band(19));
        edge.answers("16: band 20 of full texts", Scene.FULL, 441, x -> x.band(20));
        edge.answers("16: band 2 of 4 and 2 letters", Scene.of("abcd", "bc"), 12, x -> x.band(2));
        edge.answers("16: band 2 of 2 and 4 letters", Scene.of("bc", "abcd"), 12, x -> x.band(2));
    }

    // "1.0 if both are empty"
    private static void promise17EmptyTexts() {
        edge.answers("17: similarity of empty texts", Scene.NEW, 1.0, x -> x.similarity());
        edge.answers("17: similarity when both are empty again", Scene.of("a", "").then(x -> x.remove(0, 0)), 1.0,
                x -> x.similarity());
        edge.answers("17: similarity of one letter and none", Scene.of("a", ""), 0.0, x -> x.similarity());
        edge.answers("17: similarity of no letter and one", Scene.of("", "a"), 0.0, x -> x.similarity());
        edge.answers("17: similarity of 20 letters and none", Scene.of(TWENTY_A, ""), 0.0, x -> x.similarity());
        edge.answers("17: similarity of no letter and 20", Scene.of("", TWENTY_A), 0.0, x -> x.similarity());
        for (Scene scene : Scene.ALL) {
            edge.changesNothing("17: similarity", scene, x -> x.similarity());
        }
    }

    // "1.0 minus (the distance, as a double, divided by the greater number of letters of a text, as a double)"
    private static void promise17LeastAndGreatest() {
        edge.answers("17: similarity of the same full texts", Scene.of(TWENTY_A, TWENTY_A), 1.0, x -> x.similarity());
        edge.answers("17: similarity of other full texts", Scene.of(TWENTY_A, TWENTY_B), 0.0, x -> x.similarity());
        edge.answers("17: similarity by the longer text 0", Scene.of("aaaaa", "aa"), 1.0 - 3.0 / 5.0, x -> x.similarity());
        edge.answers("17: similarity by the longer text 1", Scene.of("aa", "aaaaa"), 1.0 - 3.0 / 5.0, x -> x.similarity());
        for (int far = 0; far <= 20; far++) {
            Scene scene = Scene.of("a".repeat(20 - far) + "c".repeat(far), TWENTY_A);
            edge.answers("17: similarity at distance " + far, scene, 1.0 - (double) far / 20.0, x -> x.similarity());
            if (far > 0) {
                Scene shorter = Scene.of("a".repeat(far - 1) + "b", "a".repeat(far));
                edge.answers("17: similarity at distance 1 of " + far, shorter, 1.0 - 1.0 / (double) far, x -> x.similarity());
            }
        }
    }

    public static void main(String[] args) {
        promise10EmptyTexts();
        promise10SameAndOtherLetters();
        promise11Range();
        promise11OutOfRange();
        promise12NoStepAndManySteps();
        promise13FirstAndLastStep();
        promise13NegativeIndex();
        promise13WhichStepOfSeveral();
        promise14Kinds();
        promise14NoneAndAll();
        promise15Range();
        promise15AtTheBound();
        promise16Range();
        promise16Pairs();
        promise17EmptyTexts();
        promise17LeastAndGreatest();
        edge.end();
    }
}
