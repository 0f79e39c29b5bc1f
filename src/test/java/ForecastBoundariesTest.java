/** Promises 24 to 28: a test for each sentence of the document that names an edge; the sentence stands ahead of it. */
public final class ForecastBoundariesTest {
    private static final Boundary edge = new Boundary("ForecastBoundariesTest");
    private static final int MIN = Boundary.MIN;
    private static final int MAX = Boundary.MAX;
    private static final String TWENTY_A = Scene.TWENTY_A;
    private static final String TWENTY_B = Scene.TWENTY_B;

    // "(the part can be empty, and begin anywhere). So s(i, 0) is 0, s(0, j) is j"
    private static void promise24EmptyAndFullTexts() {
        edge.answers("24: found in empty texts", Scene.NEW, 0, x -> x.foundDistance());
        edge.answers("24: nothing, found in 20 letters", Scene.of(TWENTY_A, ""), 0, x -> x.foundDistance());
        edge.answers("24: 20 letters, found in nothing", Scene.of("", TWENTY_A), 20, x -> x.foundDistance());
        edge.answers("24: one letter, found in nothing", Scene.of("", "a"), 1, x -> x.foundDistance());
        edge.answers("24: 20 letters, found in the same", Scene.of(TWENTY_A, TWENTY_A), 0, x -> x.foundDistance());
        edge.answers("24: 20 letters, found in other ones", Scene.of(TWENTY_A, TWENTY_B), 20, x -> x.foundDistance());
        for (Scene scene : Scene.ALL) {
            edge.changesNothing("24: foundDistance", scene, x -> x.foundDistance());
        }
    }

    // "Returns the least s(i, n) for i from 0 to m."
    private static void promise24FirstAndLastPlace() {
        edge.answers("24: found at the beginning", Scene.of("abdddd", "ab"), 0, x -> x.foundDistance());
        edge.answers("24: found between", Scene.of("dddabddd", "ab"), 0, x -> x.foundDistance());
        edge.answers("24: found at the end", Scene.of("ddddab", "ab"), 0, x -> x.foundDistance());
        edge.answers("24: found at the letter 20", Scene.of("d".repeat(18) + "ab", "ab"), 0, x -> x.foundDistance());
        edge.answers("24: the empty part is as good", Scene.of("cc", "ab"), 2, x -> x.foundDistance());
        edge.answers("24: one letter left out", Scene.of("ddacdd", "abc"), 1, x -> x.foundDistance());
        edge.answers("24: one letter more", Scene.of("ddabcdd", "ac"), 1, x -> x.foundDistance());
        edge.answers("24: one other letter", Scene.of("ddabcdd", "adc"), 1, x -> x.foundDistance());
        edge.answers("24: text 1 in text 0, not the other way", Scene.of("ab", "ddabdd"), 4, x -> x.foundDistance());
    }

    // "Returns the least i for which s(i, n) is foundDistance()."
    private static void promise25LeastAndGreatestEnd() {
        edge.answers("25: end in empty texts", Scene.NEW, 0, x -> x.foundEnd());
        edge.answers("25: end of nothing in 20 letters", Scene.of(TWENTY_A, ""), 0, x -> x.foundEnd());
        edge.answers("25: end of 20 letters in nothing", Scene.of("", TWENTY_A), 0, x -> x.foundEnd());
        edge.answers("25: end in the same full text", Scene.of(TWENTY_A, TWENTY_A), 20, x -> x.foundEnd());
        edge.answers("25: end in another full text", Scene.of(TWENTY_A, TWENTY_B), 0, x -> x.foundEnd());
        edge.answers("25: end at the letter 20", Scene.of("d".repeat(18) + "ab", "ab"), 20, x -> x.foundEnd());
        edge.answers("25: end at the first letter", Scene.of("acca", "a"), 1, x -> x.foundEnd());
        edge.answers("25: the least of several", Scene.of("dabdab", "ab"), 3, x -> x.foundEnd());
        edge.answers("25: the empty part goes first", Scene.of("cccc", "ab"), 0, x -> x.foundEnd());
        edge.answers("25: the least of several like ones", Scene.of("dacdac", "abc"), 3, x -> x.foundEnd());
        edge.answers("25: before the rest of the part", Scene.of("ddabd", "abc"), 4, x -> x.foundEnd());
        for (Scene scene : Scene.ALL) {
            edge.changesNothing("25: foundEnd", scene, x -> x.foundEnd());
        }
    }

    // "Throws IndexOutOfBoundsException if there is no such text or letter of the text"
    private static void promise26NoSuchTextOrLetter() {
        for (int text : Boundary.NO_TEXTS) {
            for (Scene scene : Scene.ALL) {
                edge.refuses("26: ifReplaced in text " + text, scene, Boundary.OUTSIDE, x -> x.ifReplaced(text, 0, 0));
            }
        }
        Scene scene = Scene.of("abc", "dcbad");
        for (int index : new int[] {-1, 3, 4, MIN, MAX}) {
            edge.refuses("26: ifReplaced at " + index + " of 3", scene, Boundary.OUTSIDE, x -> x.ifReplaced(0, index, 0));
        }
        for (int index : new int[] {-1, 5, 6, MIN, MAX}) {
            edge.refuses("26: ifReplaced at " + index + " of 5", scene, Boundary.OUTSIDE, x -> x.ifReplaced(1, index, 0));
        }
        edge.refuses("26: ifReplaced at 20 of 20", Scene.FULL, Boundary.OUTSIDE, x -> x.ifReplaced(0, 20, 0));
        edge.refuses("26: ifReplaced in the empty text 0", Scene.of("", "ab"), Boundary.OUTSIDE, x -> x.ifReplaced(0, 0, 0));
        edge.refuses("26: ifReplaced in the empty text 1", Scene.of("ab", ""), Boundary.OUTSIDE, x -> x.ifReplaced(1, 0, 0));
    }

    // "Throws IllegalArgumentException if the new letter is not in the alphabet"
    private static void promise26Letter() {
        for (int letters = 2; letters <= 4; letters++) {
            int most = letters - 1;
            Scene scene = Scene.of("ab", "bb").then(x -> x.setAlphabet(most + 1));
            edge.answers("26: ifReplaced by the first letter of " + letters, scene, 2, x -> x.ifReplaced(0, 1, 0));
            edge.answers("26: ifReplaced by the last letter of " + letters, scene, most == 1 ? 0 : 1,
                    x -> x.ifReplaced(0, 0, most));
            for (int letter : new int[] {-1, letters, letters + 1, 4, MIN, MAX}) {
                edge.refuses("26: ifReplaced by letter " + letter + " of " + letters, scene, Boundary.WRONG,
                        x -> x.ifReplaced(0, 0, letter));
            }
        }
    }

    // "If more than one exception applies to a call, the one that is listed first in its throws clause is thrown."
    private static void promise26WhichException() {
        edge.refuses("26: no such text, no such letter", Scene.SOME, Boundary.OUTSIDE, x -> x.ifReplaced(2, 0, 4));
        edge.refuses("26: text -1, letter -1", Scene.SOME, Boundary.OUTSIDE, x -> x.ifReplaced(-1, 0, -1));
        edge.refuses("26: no such index, no such letter", Scene.SOME, Boundary.OUTSIDE, x -> x.ifReplaced(0, 3, 4));
        edge.refuses("26: index -1, letter -1", Scene.SOME, Boundary.OUTSIDE, x -> x.ifReplaced(1, -1, -1));
        edge.refuses("26: an empty text, no such letter", Scene.NEW, Boundary.OUTSIDE, x -> x.ifReplaced(0, 0, 4));
        edge.refuses("26: index 20, letter 2 of 2", Scene.FULL, Boundary.OUTSIDE, x -> x.ifReplaced(0, 20, 2));
        edge.refuses("26: letter 2 of 2 alone", Scene.FULL, Boundary.WRONG, x -> x.ifReplaced(0, 19, 2));
    }

    // "Returns the distance after replace() with these arguments." "they change nothing"
    private static void promise26AsAfterReplace() {
        Scene[] scenes = {Scene.SOME, Scene.FULL, Scene.of("c", ""), Scene.of("", "c"), Scene.of("a", "d"),
            Scene.of("ddddddabaacbbbccabac", "abaacbbbccabacdddddd")};
        for (Scene scene : scenes) {
            for (int call = 0; call < 2 * 21 * 5; call++) {
                int text = call % 2;
                int index = call / 2 % 21;
                int letter = call / 42;
                edge.answers("26: ifReplaced(" + text + ", " + index + ", " + letter + ")", scene,
                        scene.then(x -> x.replace(text, index, letter)).answer(x -> x.distance()),
                        x -> x.ifReplaced(text, index, letter));
            }
        }
        edge.changesNothing("26: ifReplaced", Scene.SOME, x -> x.ifReplaced(0, 0, 3) + x.ifReplaced(1, 4, 1));
        edge.changesNothing("26: ifReplaced in full texts", Scene.FULL, x -> x.ifReplaced(0, 19, 0) + x.ifReplaced(1, 0, 1));
    }

    // "Throws IndexOutOfBoundsException if there is no such text"
    private static void promise27NoSuchText() {
        for (int text : Boundary.NO_TEXTS) {
            for (Scene scene : Scene.ALL) {
                edge.refuses("27: bestReplacement of text " + text, scene, Boundary.OUTSIDE, x -> x.bestReplacement(text));
            }
        }
    }

    // "NONE if the text is empty"
    private static void promise27EmptyText() {
        edge.answers("27: of empty texts", Scene.NEW, "-1 -1", x -> x.bestReplacement(0) + " " + x.bestReplacement(1));
        edge.answers("27: text 0 is empty", Scene.of("", "ab"), "-1 0", x -> x.bestReplacement(0) + " " + x.bestReplacement(1));
        edge.answers("27: text 1 is empty", Scene.of("ab", ""), "0 -1", x -> x.bestReplacement(0) + " " + x.bestReplacement(1));
        edge.answers("27: text 0 is empty again", Scene.of("d", "d").then(x -> x.remove(0, 0)), -1, x -> x.bestReplacement(0));
    }

    // "10 times the index of the letter, plus the number of the new letter .. among several .. the least such number"
    private static void promise27LeastAndGreatestNumber() {
        String almost = "a".repeat(19);
        edge.answers("27: the first letter by the first", Scene.of("b", "a"), 0, x -> x.bestReplacement(0));
        edge.answers("27: the first letter by the last", Scene.of("a", "d"), 3, x -> x.bestReplacement(0));
        edge.answers("27: the last of 20 by the last", Scene.of(TWENTY_A, almost + "d"), 193, x -> x.bestReplacement(0));
        edge.answers("27: the last of 20 of text 1", Scene.of(almost + "c", TWENTY_A), 192, x -> x.bestReplacement(1));
        edge.answers("27: place 9", Scene.of(TWENTY_A, "a".repeat(9) + "b" + "a".repeat(10)), 91, x -> x.bestReplacement(0));
        edge.answers("27: place 10", Scene.of(TWENTY_A, "a".repeat(10) + "b" + almost.substring(10)), 101,
                x -> x.bestReplacement(0));
        edge.answers("27: the least of several places", Scene.of("ab", "cd"), 2, x -> x.bestReplacement(0));
        edge.answers("27: the least of several letters", Scene.of("ccc", "aba"), 0, x -> x.bestReplacement(0));
        edge.answers("27: of the farthest texts", Scene.of(TWENTY_A, TWENTY_B), "1 0", x -> x.bestReplacement(0) + " "
                + x.bestReplacement(1));
        edge.answers("27: of 20 letters and none", Scene.of(TWENTY_B, ""), 0, x -> x.bestReplacement(0));
        edge.answers("27: of no letter and 20", Scene.of("", TWENTY_B), 0, x -> x.bestReplacement(1));
        edge.answers("27: of full texts", Scene.FULL, "0 1", x -> x.bestReplacement(0) + " " + x.bestReplacement(1));
    }

    // "(which can be the letter that is there)"
    private static void promise27TheLetterThatIsThere() {
        edge.answers("27: the same letter is best", Scene.of("c", "c"), 2, x -> x.bestReplacement(0));
        edge.answers("27: the same texts", Scene.of("bcd", "bcd"), "1 1", x -> x.bestReplacement(0) + " " + x.bestReplacement(1));
        edge.answers("27: nothing is better", Scene.of("ba", ""), 0, x -> x.bestReplacement(0));
        edge.answers("27: the same full texts", Scene.of("d" + TWENTY_A.substring(1), "d" + TWENTY_A.substring(1)), 3,
                x -> x.bestReplacement(0));
    }

    // ".. the number of the new letter of the alphabet"
    private static void promise27LettersOfTheAlphabet() {
        for (int letters = 2; letters <= 4; letters++) {
            int wanted = letters;
            int most = letters - 1;
            Scene scene = Scene.of("aa", "ab").then(x -> x.replace(1, 1, most)).then(x -> x.setAlphabet(wanted));
            edge.answers("27: the last letter of " + letters, scene, 10 + most, x -> x.bestReplacement(0));
        }
        for (Scene scene : Scene.ALL) {
            edge.changesNothing("27: bestReplacement", scene, x -> x.bestReplacement(0) + x.bestReplacement(1));
        }
    }

    // "Returns by how much misses() would increase."
    private static void promise28NoneAndMany() {
        edge.answers("28: empty texts", Scene.NEW, 0, x -> x.missesToCome());
        edge.answers("28: 20 letters and none", Scene.of(TWENTY_A, ""), 0, x -> x.missesToCome());
        edge.answers("28: no letter and 20", Scene.of("", TWENTY_A), 0, x -> x.missesToCome());
        edge.answers("28: no whole block", Scene.of("a", "ab"), 0, x -> x.missesToCome());
        edge.answers("28: one whole block", Scene.of("ab", "abc"), 1, x -> x.missesToCome());
        edge.answers("28: the same key is one miss alone", Scene.of("aaaa", "aaaa"), 3, x -> x.missesToCome());
        edge.answers("28: blocks of 1", Scene.of("abcd", "abcd").then(x -> x.setBlock(1)), 16, x -> x.missesToCome());
        edge.answers("28: all keys are there", Scene.of("aaaa", "aaaa").then(x -> x.measure()), 0, x -> x.missesToCome());
        edge.answers("28: a part of the keys is there", Scene.of("aaaa", "aaaa").then(x -> x.measure())
                .then(x -> x.replace(1, 0, 3)), 4, x -> x.missesToCome());
        edge.answers("28: the table is empty again", Scene.of("aaaa", "aaaa").then(x -> x.measure()).then(x -> x.setBlock(2)), 3,
                x -> x.missesToCome());
        edge.answers("28: full texts", Scene.of(TWENTY_A, TWENTY_B), 3, x -> x.missesToCome());
    }

    private static int missesOfMeasuring(BlockDistance x) {
        int before = x.misses();
        x.measure();
        return x.misses() - before;
    }

    // "Predicts how many misses measure() would have now." "they change nothing"
    private static void promise28AsMeasureWould() {
        String[] texts = {"bababbabb|ababaabaa", "dadaccaacd|babdbdbdad", "abc|abd", "aabbabcdacbdddccbaab|bbaaabababdcdcaabbcd"};
        for (String loaded : texts) {
            for (int size = 1; size <= 2; size++) {
                int t = size;
                Scene empty = Scene.NEW.withBuffer(loaded).then(x -> x.load()).then(x -> x.setBlock(t));
                Scene filled = Scene.of("abbaab", "babaab").then(x -> x.setBlock(t)).then(x -> x.measure())
                        .withBuffer(loaded).then(x -> x.load());
                for (Scene scene : new Scene[] {empty, filled}) {
                    String want = scene.answer(x -> missesOfMeasuring(x));
                    edge.answers("28: " + loaded + " by blocks of " + t, scene, want, x -> x.missesToCome());
                    edge.answers("28: " + loaded + " by blocks of " + t + ", asked twice", scene.then(x -> x.missesToCome()),
                            want, x -> x.missesToCome());
                    edge.changesNothing("28: missesToCome", scene, x -> x.missesToCome());
                }
            }
        }
        for (Scene scene : Scene.ALL) {
            edge.changesNothing("28: missesToCome", scene, x -> x.missesToCome());
        }
    }

    public static void main(String[] args) {
        promise24EmptyAndFullTexts();
        promise24FirstAndLastPlace();
        promise25LeastAndGreatestEnd();
        promise26NoSuchTextOrLetter();
        promise26Letter();
        promise26WhichException();
        promise26AsAfterReplace();
        promise27NoSuchText();
        promise27EmptyText();
        promise27LeastAndGreatestNumber();
        promise27TheLetterThatIsThere();
        promise27LettersOfTheAlphabet();
        promise28NoneAndMany();
        promise28AsMeasureWould();
        edge.end();
    }
}
