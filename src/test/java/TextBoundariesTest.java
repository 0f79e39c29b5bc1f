/** Promises 1 to 9: a test for each sentence of the document that names an edge; the sentence stands ahead of it. */
public final class TextBoundariesTest {
    private static final Boundary edge = new Boundary("TextBoundariesTest");
    private static final int MIN = Boundary.MIN;
    private static final int MAX = Boundary.MAX;
    private static final String TWENTY_A = Scene.TWENTY_A;
    private static final String TWENTY_B = Scene.TWENTY_B;

    private static Scene withAlphabet(String first, String second, int letters) {
        return Scene.of(first, second).then(x -> x.setAlphabet(letters));
    }

    // "There are two texts ..; at first both are empty." "Creates two empty texts."
    private static void promise1BothTextsAreEmpty() {
        edge.answers("1: text 0 is empty", Scene.NEW, 0, x -> x.length(0));
        edge.answers("1: text 1 is empty", Scene.NEW, 0, x -> x.length(1));
        edge.refuses("1: text 0 has no letter 0", Scene.NEW, Boundary.OUTSIDE, x -> x.letter(0, 0));
        edge.refuses("1: text 1 has no letter 0", Scene.NEW, Boundary.OUTSIDE, x -> x.letter(1, 0));
        edge.answers("1: d(0, 0)", Scene.NEW, 0, x -> x.prefix(0, 0));
    }

    // "The alphabet has 2 to 4 letters, at first 4"
    private static void promise1FourLettersAtFirst() {
        edge.answers("1: alphabet at first", Scene.NEW, 4, x -> x.setAlphabet(2));
        edge.answers("1: letter 3 at first", Scene.NEW, 1, x -> x.insert(0, 0, 3));
        edge.refuses("1: letter 4 at first", Scene.NEW, Boundary.WRONG, x -> x.insert(0, 0, 4));
    }

    // "The block size t is 1 or 2, at first 2." "The buffer .. is empty at first."
    private static void promise1TheRestAtFirst() {
        edge.answers("1: block size at first", Scene.NEW, 2, x -> x.setBlock(1));
        edge.answers("1: table at first", Scene.NEW, "0 0 0", x -> Scene.table(x));
        edge.answers("1: buffer at first", Scene.NEW, 0, x -> x.clearBuffer());
        edge.answers("1: first error at first", Scene.NEW, 0, x -> x.firstError());
        edge.answers("1: saved states at first", Scene.NEW, 0, x -> x.savedStates());
        edge.refuses("1: nothing is to be undone at first", Scene.NEW, Boundary.NOT_NOW, x -> x.undo());
    }

    private static void promise1ObjectsStandApart() {
        edge.due("1: a new object beside a full one", Scene.NEW.look(), () -> {
            Scene.FULL.make();
            return Scene.NEW.look();
        });
        edge.due("1: an older object beside one that is used", "| 0 0 0 0 0", () -> {
            BlockDistance one = new BlockDistance();
            Scene.SOME.make().measure();
            return Scene.texts(one) + " " + Scene.table(one) + " " + one.savedStates() + " " + one.clearBuffer();
        });
    }

    // "An object is used for at most 512 calls after it has been made"
    private static void promise1TheLastOf512Calls() {
        Scene measured = Scene.of(TWENTY_A, TWENTY_A).then(x -> x.setBlock(1)); // 44 calls: clearBuffer, append, load, setBlock
        edge.answers("1: call 512 tells the hits of 467 measurings", measured, 467 * 400 - 3, x -> {
            for (int calls = 44; calls < 511; calls++) {
                x.measure();
            }
            return x.hits();
        });
        Scene changed = new Scene(() -> {
            BlockDistance x = new BlockDistance();
            for (int calls = 0; calls < 510; calls += 2) {
                x.insert(0, 0, 3);
                x.remove(0, 0);
            }
            return x;
        });
        edge.answers("1: call 511 undoes, call 512 tells what was undone", changed, "5 1", x -> x.undo() + " " + x.length(0));
    }

    // "An input text is two texts of 0 to 20 letters .. each, with '|' between them." "Returns the number of letters"
    private static void promise2LeastAndLargestTexts() {
        edge.answers("2: two empty texts", Scene.SOME.withBuffer("|"), "0 |", x -> x.load() + " " + Scene.texts(x));
        edge.answers("2: text 0 of 20 letters", Scene.SOME.withBuffer(TWENTY_A + "|"), "20 " + TWENTY_A + "|",
                x -> x.load() + " " + Scene.texts(x));
        edge.answers("2: text 1 of 20 letters", Scene.SOME.withBuffer("|" + TWENTY_B), "20 |" + TWENTY_B,
                x -> x.load() + " " + Scene.texts(x));
        edge.answers("2: both texts of 20 letters", Scene.SOME.withBuffer(TWENTY_A + "|" + TWENTY_B),
                "40 " + TWENTY_A + "|" + TWENTY_B, x -> x.load() + " " + Scene.texts(x));
        edge.answers("2: one letter each, over full texts", Scene.of(TWENTY_A, TWENTY_B).withBuffer("d|c"), "2 d|c",
                x -> x.load() + " " + Scene.texts(x));
    }

    // "Throws IllegalArgumentException if the buffer is not a complete input text .. (the buffer stays)"
    private static void promise2NotAnInputText() {
        String[] wrong = {"", "a", TWENTY_A, TWENTY_A + "a|", TWENTY_A + "a|b", "|" + TWENTY_B + "b", "a|" + TWENTY_B + "b",
            "||", "a|b|", "|a|", "a||b", "e|", "|e", "`|", "|`", "A|b", "a|D", "a|b~", "!a|b", "a|b!", "ab}cd", "ab{cd",
            "a".repeat(60), TWENTY_A + "|" + TWENTY_B + "|" + "c".repeat(18)};
        for (String buffer : wrong) {
            for (Scene scene : Scene.ALL) {
                edge.refuses("2: load of '" + buffer + "'", scene.withBuffer(buffer), Boundary.WRONG, x -> x.load());
            }
        }
    }

    // ".. or a letter is not in the alphabet (the buffer stays)"
    private static void promise2LettersOfTheAlphabet() {
        String[] last = {"b", "c", "d"};
        for (int letters = 2; letters <= 4; letters++) {
            String in = last[letters - 2];
            int more = letters + 1;
            Scene scene = withAlphabet("a", "b", letters);
            for (String buffer : new String[] {in + "|", "|" + in, "a" + in + "a|b", "a|a" + in, "|" + "a".repeat(19) + in}) {
                edge.answers("2: load of '" + buffer + "' with " + letters + " letters",
                        scene.withBuffer(buffer).then(x -> x.load()), buffer, x -> Scene.texts(x));
            }
            if (letters == 4) {
                continue;
            }
            String out = last[letters - 1];
            for (String buffer : new String[] {out + "|", "|" + out, "a" + out + "a|b", "a|a" + out,
                "|" + "a".repeat(19) + out, "a".repeat(19) + out + "|" + "b".repeat(20)}) {
                Scene loaded = scene.withBuffer(buffer);
                edge.refuses("2: load of '" + buffer + "' with " + letters + " letters", loaded, Boundary.WRONG, x -> x.load());
                edge.answers("2: load of '" + buffer + "' that stayed, with one letter more", loaded.thenTry(x -> x.load())
                        .then(x -> x.setAlphabet(more)).then(x -> x.load()), buffer, x -> Scene.texts(x));
            }
        }
    }

    private static void promise2RefusedWithSixSavedStates() {
        edge.refuses("2: load of a letter beyond two, six saved", Scene.FULL.withBuffer("ab|c"), Boundary.WRONG, x -> x.load());
        edge.refuses("2: load of no input text, six saved", Scene.FULL.withBuffer("ab"), Boundary.WRONG, x -> x.load());
    }

    // "Replaces both texts by those in the buffer, which is emptied. Undoable." ".. even if nothing changes."
    private static void promise2LoadIsUndoable() {
        edge.answers("2: the buffer is emptied", Scene.SOME.then(x -> x.load()), 0, x -> x.clearBuffer());
        edge.answers("2: a full text fits in behind a load", Scene.SOME.then(x -> x.load()), 1, x -> x.append('a'));
        edge.answers("2: the alphabet stays", withAlphabet("ab", "", 2).withBuffer("b|ba").then(x -> x.load()), "b|ba 2",
                x -> Scene.state(x));
        edge.savesOne("2: load", Scene.SOME, x -> x.load());
        edge.savesOne("2: load of the texts that are there", Scene.of("ab", "c").withBuffer("ab|c"), x -> x.load());
        edge.savesOne("2: load with six saved states", Scene.FULL.withBuffer("a|b"), x -> x.load());
        edge.savesOne("2: load of empty texts at first", Scene.NEW.withBuffer("|"), x -> x.load());
    }

    // "text: 0 or 1" "There is no such text means that the number is neither 0 nor 1."
    private static void promise3NoSuchText() {
        for (int text : Boundary.NO_TEXTS) {
            for (Scene scene : Scene.ALL) {
                edge.refuses("3: insert into text " + text, scene, Boundary.OUTSIDE, x -> x.insert(text, 0, 0));
            }
        }
        edge.answers("3: insert into text 0", Scene.SOME.then(x -> x.insert(0, 0, 2)), "cbda|abdca", x -> Scene.texts(x));
        edge.answers("3: insert into text 1", Scene.SOME.then(x -> x.insert(1, 0, 2)), "bda|cabdca", x -> Scene.texts(x));
    }

    // "index: 0 to the number of letters of the text: the number of letters before it"
    private static void promise3Index() {
        edge.answers("3: insert at 0", Scene.of("ab", "cd"), "3 dab|cd", x -> x.insert(0, 0, 3) + " " + Scene.texts(x));
        edge.answers("3: insert at the end", Scene.of("ab", "cd"), "3 ab|cda", x -> x.insert(1, 2, 0) + " " + Scene.texts(x));
        edge.answers("3: insert behind one letter", Scene.of("ab", "cd"), "3 acb|cd",
                x -> x.insert(0, 1, 2) + " " + Scene.texts(x));
        edge.answers("3: insert into an empty text", Scene.NEW, "1 |d", x -> x.insert(1, 0, 3) + " " + Scene.texts(x));
        edge.refuses("3: insert at 1 of an empty text", Scene.NEW, Boundary.OUTSIDE, x -> x.insert(1, 1, 3));
        edge.answers("3: insert at the end of 19 letters", Scene.of("b".repeat(19), ""), "20 " + "b".repeat(19) + "a|",
                x -> x.insert(0, 19, 0) + " " + Scene.texts(x));
        edge.refuses("3: insert at 20 of 19 letters", Scene.of("b".repeat(19), TWENTY_A), Boundary.OUTSIDE,
                x -> x.insert(0, 20, 0));
        Scene scene = Scene.of("abc", "dcbad");
        for (int index : new int[] {-1, 4, 5, MIN, MAX}) {
            edge.refuses("3: insert at " + index + " of 3 letters", scene, Boundary.OUTSIDE, x -> x.insert(0, index, 0));
        }
        for (int index : new int[] {-1, 6, 7, MIN, MAX}) {
            edge.refuses("3: insert at " + index + " of 5 letters", scene, Boundary.OUTSIDE, x -> x.insert(1, index, 0));
        }
    }

    // "letter: the number of a letter of the alphabet" "IllegalArgumentException if the letter is not in the alphabet"
    private static void promise3Letter() {
        for (int letters = 2; letters <= 4; letters++) {
            Scene scene = withAlphabet("a", "ba", letters);
            int most = letters - 1;
            edge.answers("3: insert of the first letter of " + letters, scene, "2 0",
                    x -> x.insert(0, 1, 0) + " " + x.letter(0, 1));
            edge.answers("3: insert of the last letter of " + letters, scene, "3 " + most,
                    x -> x.insert(1, 1, most) + " " + x.letter(1, 1));
            for (int letter : new int[] {-1, letters, letters + 1, 4, MIN, MAX}) {
                edge.refuses("3: insert of letter " + letter + " of " + letters, scene, Boundary.WRONG,
                        x -> x.insert(0, 0, letter));
            }
        }
    }

    // ".. of at most 20 letters each" "Throws IllegalStateException if the text has 20 letters"
    private static void promise3TwentyLetters() {
        Scene nineteen = Scene.of("a".repeat(19), "b".repeat(19));
        edge.answers("3: the letter 20 of text 0", nineteen, 20, x -> x.insert(0, 0, 3));
        edge.answers("3: the letter 20 of text 1", nineteen, 20, x -> x.insert(1, 7, 3));
        edge.answers("3: the letter 20 beside a full text", Scene.of("a".repeat(19), TWENTY_B), 20, x -> x.insert(0, 19, 3));
        Scene full = Scene.of(TWENTY_A, "");
        edge.refuses("3: the letter 21, ahead", full, Boundary.NOT_NOW, x -> x.insert(0, 0, 0));
        edge.refuses("3: the letter 21, behind", full, Boundary.NOT_NOW, x -> x.insert(0, 20, 3));
        edge.refuses("3: the letter 21 of text 1", full.then(x -> x.exchange()), Boundary.NOT_NOW, x -> x.insert(1, 13, 2));
        edge.refuses("3: the letter 21 of text 0, all full", Scene.FULL, Boundary.NOT_NOW, x -> x.insert(0, 10, 1));
        edge.refuses("3: the letter 21 of text 1, all full", Scene.FULL, Boundary.NOT_NOW, x -> x.insert(1, 10, 1));
        edge.answers("3: a letter in place of one of 20", full.then(x -> x.remove(0, 5)), 20, x -> x.insert(0, 19, 1));
        Scene grown = Scene.NEW;
        for (int k = 0; k < 20; k++) {
            int size = k + 1;
            edge.answers("3: the letter " + size, grown, size, x -> x.insert(0, x.length(0), 1));
            grown = grown.then(x -> x.insert(0, 0, 1));
        }
        edge.refuses("3: the letter 21 behind 20 insertions", grown, Boundary.NOT_NOW, x -> x.insert(0, 0, 1));
    }

    // "If more than one exception applies to a call, the one that is listed first in its throws clause is thrown."
    private static void promise3WhichException() {
        edge.refuses("3: no such text, no such letter", Scene.SOME, Boundary.OUTSIDE, x -> x.insert(2, 0, 4));
        edge.refuses("3: no such text, index or letter", Scene.FULL, Boundary.OUTSIDE, x -> x.insert(-1, 21, 2));
        edge.refuses("3: no such index, no such letter", Scene.SOME, Boundary.OUTSIDE, x -> x.insert(0, 4, -1));
        edge.refuses("3: no such index, no such letter, a full text", Scene.FULL, Boundary.OUTSIDE, x -> x.insert(0, 21, 2));
        edge.refuses("3: no such index, a full text", Scene.FULL, Boundary.OUTSIDE, x -> x.insert(1, -1, 1));
        edge.refuses("3: index 21, a full text", Scene.FULL, Boundary.OUTSIDE, x -> x.insert(1, 21, 1));
        edge.refuses("3: no such letter, a full text", Scene.FULL, Boundary.WRONG, x -> x.insert(0, 20, 2));
        edge.refuses("3: letter -1, a full text", Scene.FULL, Boundary.WRONG, x -> x.insert(1, 0, -1));
        edge.refuses("3: a full text alone", Scene.FULL, Boundary.NOT_NOW, x -> x.insert(0, 20, 1));
    }

    private static void promise3InsertIsUndoable() {
        edge.answers("3: the alphabet stays", withAlphabet("ab", "", 3).then(x -> x.insert(0, 0, 2)), "cab| 3",
                x -> Scene.state(x));
        edge.savesOne("3: insert", Scene.SOME, x -> x.insert(1, 3, 2));
        edge.savesOne("3: insert into an empty text", Scene.NEW, x -> x.insert(0, 0, 0));
        edge.savesOne("3: insert with six saved states", Scene.FULL.then(x -> x.remove(0, 3)), x -> x.insert(0, 20 - 1, 0));
    }

    // "Throws IndexOutOfBoundsException if there is no such text or letter"
    private static void promise4NoSuchTextOrLetter() {
        for (int text : Boundary.NO_TEXTS) {
            for (Scene scene : Scene.ALL) {
                edge.refuses("4: remove from text " + text, scene, Boundary.OUTSIDE, x -> x.remove(text, 0));
            }
        }
        Scene scene = Scene.of("abc", "dcbad");
        for (int index : new int[] {-1, 3, 4, MIN, MAX}) {
            edge.refuses("4: remove at " + index + " of 3 letters", scene, Boundary.OUTSIDE, x -> x.remove(0, index));
        }
        for (int index : new int[] {-1, 5, 6, MIN, MAX}) {
            edge.refuses("4: remove at " + index + " of 5 letters", scene, Boundary.OUTSIDE, x -> x.remove(1, index));
        }
        edge.refuses("4: remove at 20 of 20 letters", Scene.FULL, Boundary.OUTSIDE, x -> x.remove(0, 20));
        edge.refuses("4: remove from the empty text 0", Scene.of("", "ab"), Boundary.OUTSIDE, x -> x.remove(0, 0));
        edge.refuses("4: remove from the empty text 1", Scene.of("ab", ""), Boundary.OUTSIDE, x -> x.remove(1, 0));
        edge.refuses("4: remove at -1 of an empty text", Scene.NEW, Boundary.OUTSIDE, x -> x.remove(0, -1));
    }

    // "index: 0 to the number of letters of the text minus 1" "Returns the letter."
    private static void promise4FirstAndLastLetter() {
        Scene scene = Scene.of("abc", "dcbad");
        edge.answers("4: remove the first", scene, "0 bc|dcbad", x -> x.remove(0, 0) + " " + Scene.texts(x));
        edge.answers("4: remove the last", scene, "3 abc|dcba", x -> x.remove(1, 4) + " " + Scene.texts(x));
        edge.answers("4: remove between", scene, "1 ac|dcbad", x -> x.remove(0, 1) + " " + Scene.texts(x));
        edge.answers("4: remove the only letter", Scene.of("d", ""), "3 |", x -> x.remove(0, 0) + " " + Scene.texts(x));
        Scene full = Scene.of("c" + "a".repeat(18) + "d", TWENTY_B);
        edge.answers("4: remove the first of 20", full, "2 " + "a".repeat(18) + "d|" + TWENTY_B,
                x -> x.remove(0, 0) + " " + Scene.texts(x));
        edge.answers("4: remove the last of 20", full, "3 c" + "a".repeat(18) + "|" + TWENTY_B,
                x -> x.remove(0, 19) + " " + Scene.texts(x));
    }

    private static void promise4RemoveIsUndoable() {
        edge.answers("4: the alphabet stays", withAlphabet("ab", "b", 2).then(x -> x.remove(0, 0)), "b|b 2",
                x -> Scene.state(x));
        edge.savesOne("4: remove", Scene.SOME, x -> x.remove(0, 2));
        edge.savesOne("4: remove of the only letter", Scene.of("", "c"), x -> x.remove(1, 0));
        edge.savesOne("4: remove with six saved states", Scene.FULL, x -> x.remove(1, 19));
    }

    // "Throws IndexOutOfBoundsException if there is no such text or letter of the text"
    private static void promise5NoSuchTextOrLetter() {
        for (int text : Boundary.NO_TEXTS) {
            for (Scene scene : Scene.ALL) {
                edge.refuses("5: replace in text " + text, scene, Boundary.OUTSIDE, x -> x.replace(text, 0, 0));
            }
        }
        Scene scene = Scene.of("abc", "dcbad");
        for (int index : new int[] {-1, 3, 4, MIN, MAX}) {
            edge.refuses("5: replace at " + index + " of 3 letters", scene, Boundary.OUTSIDE, x -> x.replace(0, index, 0));
        }
        for (int index : new int[] {-1, 5, 6, MIN, MAX}) {
            edge.refuses("5: replace at " + index + " of 5 letters", scene, Boundary.OUTSIDE, x -> x.replace(1, index, 0));
        }
        edge.refuses("5: replace at 20 of 20 letters", Scene.FULL, Boundary.OUTSIDE, x -> x.replace(1, 20, 0));
        edge.refuses("5: replace in the empty text 0", Scene.of("", "ab"), Boundary.OUTSIDE, x -> x.replace(0, 0, 0));
        edge.refuses("5: replace in the empty text 1", Scene.of("ab", ""), Boundary.OUTSIDE, x -> x.replace(1, 0, 0));
    }

    // "index: 0 to the number of letters of the text minus 1" "Returns the previous letter."
    private static void promise5FirstAndLastLetter() {
        Scene scene = Scene.of("abc", "dcbad");
        edge.answers("5: replace the first", scene, "0 dbc|dcbad", x -> x.replace(0, 0, 3) + " " + Scene.texts(x));
        edge.answers("5: replace the last", scene, "3 abc|dcbaa", x -> x.replace(1, 4, 0) + " " + Scene.texts(x));
        Scene full = Scene.of("c" + "a".repeat(18) + "d", TWENTY_B);
        edge.answers("5: replace the first of 20", full, "2 b" + "a".repeat(18) + "d|" + TWENTY_B,
                x -> x.replace(0, 0, 1) + " " + Scene.texts(x));
        edge.answers("5: replace the last of 20", full, "1 c" + "a".repeat(18) + "d|" + "b".repeat(19) + "a",
                x -> x.replace(1, 19, 0) + " " + Scene.texts(x));
    }

    // "Throws IllegalArgumentException if the new letter is not in the alphabet"
    private static void promise5Letter() {
        for (int letters = 2; letters <= 4; letters++) {
            Scene scene = withAlphabet("ab", "ba", letters);
            int most = letters - 1;
            edge.answers("5: replace by the first letter of " + letters, scene, "1 aa|ba",
                    x -> x.replace(0, 1, 0) + " " + Scene.texts(x));
            edge.answers("5: replace by the last letter of " + letters, scene, "0 " + most,
                    x -> x.replace(1, 1, most) + " " + x.letter(1, 1));
            for (int letter : new int[] {-1, letters, letters + 1, 4, MIN, MAX}) {
                edge.refuses("5: replace by letter " + letter + " of " + letters, scene, Boundary.WRONG,
                        x -> x.replace(0, 0, letter));
            }
        }
    }

    // "If more than one exception applies to a call, the one that is listed first in its throws clause is thrown."
    private static void promise5WhichException() {
        edge.refuses("5: no such text, no such letter", Scene.SOME, Boundary.OUTSIDE, x -> x.replace(2, 0, 4));
        edge.refuses("5: text -1, letter -1", Scene.SOME, Boundary.OUTSIDE, x -> x.replace(-1, 0, -1));
        edge.refuses("5: no such index, no such letter", Scene.SOME, Boundary.OUTSIDE, x -> x.replace(0, 3, 4));
        edge.refuses("5: index -1, letter -1", Scene.SOME, Boundary.OUTSIDE, x -> x.replace(1, -1, -1));
        edge.refuses("5: an empty text, no such letter", Scene.NEW, Boundary.OUTSIDE, x -> x.replace(0, 0, 4));
        edge.refuses("5: index 20, letter 2 of 2", Scene.FULL, Boundary.OUTSIDE, x -> x.replace(0, 20, 2));
        edge.refuses("5: letter 2 of 2 alone", Scene.FULL, Boundary.WRONG, x -> x.replace(0, 19, 2));
    }

    // "saves the state .., even if nothing changes"
    private static void promise5ReplaceIsUndoable() {
        edge.answers("5: the alphabet stays", withAlphabet("ab", "b", 2).then(x -> x.replace(0, 1, 0)), "aa|b 2",
                x -> Scene.state(x));
        edge.savesOne("5: replace", Scene.SOME, x -> x.replace(1, 2, 0));
        edge.savesOne("5: replace by the same letter", Scene.SOME, x -> x.replace(0, 0, 1));
        edge.savesOne("5: replace with six saved states", Scene.FULL, x -> x.replace(1, 19, 1));
        edge.savesOne("5: replace by the same letter with six saved states", Scene.FULL, x -> x.replace(0, 19, 1));
    }

    // "Exchanges both texts. Undoable." "Returns the number of letters of text 0 after the call."
    private static void promise6EmptyAndFullTexts() {
        edge.answers("6: exchange of empty texts", Scene.NEW, "0 |", x -> x.exchange() + " " + Scene.texts(x));
        edge.answers("6: exchange of an empty and a full text", Scene.of("", TWENTY_B), "20 " + TWENTY_B + "|",
                x -> x.exchange() + " " + Scene.texts(x));
        edge.answers("6: exchange of a full and an empty text", Scene.of(TWENTY_A, ""), "0 |" + TWENTY_A,
                x -> x.exchange() + " " + Scene.texts(x));
        edge.answers("6: exchange of full texts", Scene.of(TWENTY_A, TWENTY_B), "20 " + TWENTY_B + "|" + TWENTY_A,
                x -> x.exchange() + " " + Scene.texts(x));
    }

    // "saves the state .., even if nothing changes"
    private static void promise6ExchangeIsUndoable() {
        edge.answers("6: the alphabet stays", withAlphabet("ab", "b", 2).then(x -> x.exchange()), "b|ab 2",
                x -> Scene.state(x));
        edge.savesOne("6: exchange", Scene.SOME, x -> x.exchange());
        edge.savesOne("6: exchange of empty texts", Scene.NEW, x -> x.exchange());
        edge.savesOne("6: exchange of the same texts", Scene.of("abc", "abc"), x -> x.exchange());
        edge.savesOne("6: exchange with six saved states", Scene.FULL, x -> x.exchange());
    }

    // "letters: 2 to 4" "Throws IllegalArgumentException if letters is out of range"
    private static void promise7Range() {
        for (int letters : new int[] {1, 5, 0, -1, 6, MIN, MAX}) {
            for (Scene scene : Scene.ALL) {
                edge.refuses("7: alphabet of " + letters, scene, Boundary.WRONG, x -> x.setAlphabet(letters));
            }
        }
        for (int before = 2; before <= 4; before++) {
            for (int after = 2; after <= 4; after++) {
                int letters = after;
                edge.answers("7: alphabet of " + after + " for " + before, withAlphabet("ab", "b", before),
                        before + " " + after, x -> x.setAlphabet(letters) + " " + x.setAlphabet(4));
            }
        }
        edge.answers("7: the letter that comes in", withAlphabet("ab", "b", 2).then(x -> x.setAlphabet(3)), 3,
                x -> x.insert(0, 0, 2));
        edge.refuses("7: the letter that stays out", withAlphabet("ab", "b", 2).then(x -> x.setAlphabet(3)), Boundary.WRONG,
                x -> x.insert(0, 0, 3));
    }

    // "Throws IllegalStateException if a letter of a text would not be in the alphabet"
    private static void promise7LettersOfTheTexts() {
        String[] lettersOf = {"a", "b", "c", "d"};
        for (int letter = 0; letter <= 3; letter++) {
            String with = lettersOf[letter];
            String[] firsts = {with, "", with + "a", "a" + with + "b", "", "", "a".repeat(19) + with, TWENTY_A};
            String[] seconds = {"", with, "b", "", with + "ab", "b" + with, "", "a".repeat(19) + with};
            for (int k = 0; k < firsts.length; k++) {
                Scene scene = Scene.of(firsts[k], seconds[k]);
                for (int letters = 2; letters <= 4; letters++) {
                    int wanted = letters;
                    String what = "7: alphabet of " + letters + " for " + firsts[k] + "|" + seconds[k];
                    if (letter < letters) {
                        edge.answers(what, scene, 4, x -> x.setAlphabet(wanted));
                    } else {
                        edge.refuses(what, scene, Boundary.NOT_NOW, x -> x.setAlphabet(wanted));
                    }
                }
            }
        }
        edge.refuses("7: alphabet of 3 below a text, six saved", Scene.FULL.then(x -> x.setAlphabet(4))
                .then(x -> x.replace(0, 0, 3)), Boundary.NOT_NOW, x -> x.setAlphabet(3));
        edge.answers("7: letters of the buffer don't matter", Scene.of("ab", "a").withBuffer("dd|c"), 4, x -> x.setAlphabet(2));
        edge.answers("7: letters of saved states don't matter", Scene.of("d", "a").then(x -> x.remove(0, 0)), 4,
                x -> x.setAlphabet(2));
        edge.answers("7: letters that were replaced don't matter", Scene.of("dc", "cb").then(x -> x.replace(0, 0, 1))
                .then(x -> x.replace(0, 1, 1)).then(x -> x.replace(1, 0, 1)), 4, x -> x.setAlphabet(2));
        edge.answers("7: letters behind the end don't matter", Scene.of("ad", "d").withBuffer("a|").then(x -> x.load()), 4,
                x -> x.setAlphabet(2));
    }

    // "If more than one exception applies to a call, the one that is listed first in its throws clause is thrown."
    private static void promise7WhichException() {
        Scene scene = Scene.of("ad", "db");
        for (int letters : new int[] {1, 0, -1, MIN}) {
            edge.refuses("7: alphabet of " + letters + " below the texts", scene, Boundary.WRONG, x -> x.setAlphabet(letters));
        }
        edge.refuses("7: alphabet of 2 below the texts", scene, Boundary.NOT_NOW, x -> x.setAlphabet(2));
        edge.refuses("7: alphabet of 3 below the texts", scene, Boundary.NOT_NOW, x -> x.setAlphabet(3));
    }

    // "saves the state .., even if nothing changes"
    private static void promise7SetAlphabetIsUndoable() {
        edge.answers("7: the texts stay", withAlphabet("ab", "b", 2), "ab|b 2", x -> Scene.state(x));
        edge.savesOne("7: setAlphabet", Scene.of("ab", "b"), x -> x.setAlphabet(2));
        edge.savesOne("7: setAlphabet to the same", Scene.SOME, x -> x.setAlphabet(4));
        edge.savesOne("7: setAlphabet to the same at first", Scene.NEW, x -> x.setAlphabet(4));
        edge.savesOne("7: setAlphabet to more with six saved states", Scene.FULL, x -> x.setAlphabet(3));
        edge.savesOne("7: setAlphabet to the same with six saved states", Scene.FULL, x -> x.setAlphabet(2));
    }

    // "Throws IndexOutOfBoundsException if there is no such text"
    private static void promise8NoSuchText() {
        for (int text : Boundary.NO_TEXTS) {
            for (Scene scene : Scene.ALL) {
                edge.refuses("8: length of text " + text, scene, Boundary.OUTSIDE, x -> x.length(text));
            }
        }
    }

    // "Returns the number of letters."
    private static void promise8EmptyAndFullTexts() {
        edge.answers("8: length of an empty text 0", Scene.of("", "a"), 0, x -> x.length(0));
        edge.answers("8: length of an empty text 1", Scene.of("a", ""), 0, x -> x.length(1));
        edge.answers("8: length of a full text 0", Scene.of(TWENTY_A, "a"), 20, x -> x.length(0));
        edge.answers("8: length of a full text 1", Scene.of("a", TWENTY_B), 20, x -> x.length(1));
        edge.answers("8: length of one letter", Scene.of("", "d"), 1, x -> x.length(1));
        for (Scene scene : Scene.ALL) {
            edge.changesNothing("8: length", scene, x -> x.length(0) + x.length(1));
        }
    }

    // "Throws IndexOutOfBoundsException if there is no such text or letter"
    private static void promise9NoSuchTextOrLetter() {
        for (int text : Boundary.NO_TEXTS) {
            for (Scene scene : Scene.ALL) {
                edge.refuses("9: letter of text " + text, scene, Boundary.OUTSIDE, x -> x.letter(text, 0));
            }
        }
        Scene scene = Scene.of("abc", "dcbad");
        for (int index : new int[] {-1, 3, 4, MIN, MAX}) {
            edge.refuses("9: letter " + index + " of 3", scene, Boundary.OUTSIDE, x -> x.letter(0, index));
        }
        for (int index : new int[] {-1, 5, 6, MIN, MAX}) {
            edge.refuses("9: letter " + index + " of 5", scene, Boundary.OUTSIDE, x -> x.letter(1, index));
        }
        edge.refuses("9: letter 20 of 20", Scene.FULL, Boundary.OUTSIDE, x -> x.letter(0, 20));
        edge.refuses("9: letter of an empty text", Scene.of("", "ab"), Boundary.OUTSIDE, x -> x.letter(0, 0));
        edge.refuses("9: letter behind a shorter load", Scene.of("abc", "d").withBuffer("a|").then(x -> x.load()),
                Boundary.OUTSIDE, x -> x.letter(0, 1));
    }

    // "a letter is told by its number, 0 for 'a' to 3 for 'd'" "index: 0 to the number of letters of the text minus 1"
    private static void promise9FirstAndLastLetter() {
        for (int letter = 0; letter <= 3; letter++) {
            int at = letter;
            edge.answers("9: letter " + letter + " of abcd", Scene.of("abcd", ""), letter, x -> x.letter(0, at));
            edge.answers("9: letter " + letter + " of dcba", Scene.of("", "dcba"), 3 - letter, x -> x.letter(1, at));
        }
        Scene full = Scene.of("c" + "a".repeat(18) + "d", "d" + "b".repeat(18) + "c");
        edge.answers("9: first and last of 20", full, "2 3 3 2",
                x -> x.letter(0, 0) + " " + x.letter(0, 19) + " " + x.letter(1, 0) + " " + x.letter(1, 19));
        edge.changesNothing("9: letter", Scene.SOME, x -> x.letter(0, 0) + x.letter(1, 4));
    }

    public static void main(String[] args) {
        promise1BothTextsAreEmpty();
        promise1FourLettersAtFirst();
        promise1TheRestAtFirst();
        promise1ObjectsStandApart();
        promise1TheLastOf512Calls();
        promise2LeastAndLargestTexts();
        promise2NotAnInputText();
        promise2LettersOfTheAlphabet();
        promise2RefusedWithSixSavedStates();
        promise2LoadIsUndoable();
        promise3NoSuchText();
        promise3Index();
        promise3Letter();
        promise3TwentyLetters();
        promise3WhichException();
        promise3InsertIsUndoable();
        promise4NoSuchTextOrLetter();
        promise4FirstAndLastLetter();
        promise4RemoveIsUndoable();
        promise5NoSuchTextOrLetter();
        promise5FirstAndLastLetter();
        promise5Letter();
        promise5WhichException();
        promise5ReplaceIsUndoable();
        promise6EmptyAndFullTexts();
        promise6ExchangeIsUndoable();
        promise7Range();
        promise7LettersOfTheTexts();
        promise7WhichException();
        promise7SetAlphabetIsUndoable();
        promise8NoSuchText();
        promise8EmptyAndFullTexts();
        promise9NoSuchTextOrLetter();
        promise9FirstAndLastLetter();
        edge.end();
    }
}
