/** Promises 29 to 31: a test for each sentence of the document that names an edge; the sentence stands ahead of it. */
public final class BufferBoundariesTest {
    private static final Boundary edge = new Boundary("BufferBoundariesTest");
    private static final int MIN = Boundary.MIN;
    private static final int MAX = Boundary.MAX;
    private static final String TWENTY_A = Scene.TWENTY_A;
    private static final String TWENTY_B = Scene.TWENTY_B;
    private static final String[] BUFFERS = {"", "a", "ab|", "ab|cd", "x!", TWENTY_A + "|" + TWENTY_B, "a".repeat(59),
        "a".repeat(60)};

    // "code: a character code, 33 to 126" "Throws IllegalArgumentException if code is out of range"
    private static void promise29Range() {
        for (int code = 33; code <= 126; code++) {
            int asked = code;
            edge.answers("29: append " + code, Scene.NEW, 1, x -> x.append(asked));
        }
        for (int code : new int[] {32, 127, 31, 128, 0, -1, 97 + 256, 97 + 65536, MIN, MAX}) {
            for (Scene scene : Scene.ALL) {
                edge.refuses("29: append " + code, scene, Boundary.WRONG, x -> x.append(code));
            }
        }
    }

    // "The buffer contains at most 60 characters" "Throws IllegalStateException if the buffer contains 60 characters"
    private static void promise29SixtyCharacters() {
        for (int size = 0; size < 60; size++) {
            edge.answers("29: append behind " + size, Scene.NEW.withBuffer("a".repeat(size)), size + 1, x -> x.append('|'));
        }
        Scene last = Scene.SOME.withBuffer("a".repeat(59)).then(x -> x.append(126));
        edge.answers("29: the character 60 is there", last, 60, x -> x.clearBuffer());
        for (int code : new int[] {33, 'a', '|', 126}) {
            edge.refuses("29: the character 61 is " + code, last, Boundary.NOT_NOW, x -> x.append(code));
            edge.refuses("29: the character 61 of a full object is " + code, Scene.FULL, Boundary.NOT_NOW, x -> x.append(code));
        }
        edge.answers("29: append behind a full buffer that was emptied", Scene.FULL.then(x -> x.clearBuffer()), 1,
                x -> x.append('a'));
        edge.answers("29: append behind a load", Scene.NEW.withBuffer(TWENTY_A + "|" + TWENTY_B).then(x -> x.load()), 1,
                x -> x.append('a'));
    }

    // "If more than one exception applies to a call, the one that is listed first in its throws clause is thrown."
    private static void promise29WhichException() {
        for (int code : new int[] {32, 127, -1, MIN, MAX}) {
            edge.refuses("29: code " + code + ", and a full buffer", Scene.FULL, Boundary.WRONG, x -> x.append(code));
        }
        edge.refuses("29: a full buffer alone", Scene.FULL, Boundary.NOT_NOW, x -> x.append(33));
    }

    // append is not marked "Undoable"; the buffer does not belong to the state
    private static void promise29NotUndoable() {
        edge.savesNone("29: append", Scene.NEW, x -> x.append('a'));
        edge.savesNone("29: append", Scene.SOME, x -> x.append('a'));
        edge.savesNone("29: append with six saved states", Scene.FULL.then(x -> x.clearBuffer()), x -> x.append('a'));
        edge.answers("29: what is appended stays behind an undo", Scene.SOME.then(x -> x.append('d')).then(x -> x.undo()), 5,
                x -> x.clearBuffer());
        edge.due("29: append leaves the table", Scene.SOME.tableLook(), () -> Scene.SOME.then(x -> x.append('a')).tableLook());
    }

    // "Empties the buffer. Returns the length that it had."
    private static void promise30EmptyAndFullBuffer() {
        for (String buffer : BUFFERS) {
            Scene scene = Scene.SOME.withBuffer(buffer);
            int size = buffer.length();
            edge.answers("30: clearBuffer of " + size, scene, size + " 0 0", x -> x.clearBuffer() + " " + x.clearBuffer()
                    + " " + x.firstError());
            edge.answers("30: load of what came behind clearBuffer of " + size, scene.then(x -> x.clearBuffer())
                    .then(x -> x.append('d')).then(x -> x.append('|')).then(x -> x.append('c')), "2 d|c",
                    x -> x.load() + " " + Scene.texts(x));
            edge.refuses("30: load behind clearBuffer of " + size, scene.then(x -> x.clearBuffer()), Boundary.WRONG,
                    x -> x.load());
        }
        edge.answers("30: clearBuffer at first", Scene.NEW, 0, x -> x.clearBuffer());
        edge.changesNothing("30: clearBuffer of an empty buffer", Scene.SOME.withBuffer(""), x -> x.clearBuffer());
    }

    // clearBuffer is not marked "Undoable"; the buffer does not belong to the state
    private static void promise30NotUndoable() {
        for (Scene scene : Scene.ALL) {
            edge.savesNone("30: clearBuffer", scene, x -> x.clearBuffer());
            edge.due("30: clearBuffer leaves the table", scene.tableLook(), () -> scene.then(x -> x.clearBuffer()).tableLook());
        }
        edge.answers("30: undo leaves the buffer empty", Scene.SOME.then(x -> x.clearBuffer()).then(x -> x.undo()), 0,
                x -> x.clearBuffer());
    }

    private static void firstErrorOf(String buffer, int want) {
        edge.answers("31: first error of '" + buffer + "'", Scene.NEW.withBuffer(buffer), want, x -> x.firstError());
    }

    // "Returns the index of the first character that is an error"
    private static void promise31EachCharacter() {
        for (char code = 33; code <= 126; code++) {
            boolean letter = code >= 'a' && code <= 'd';
            boolean bar = code == '|';
            firstErrorOf("" + code, letter || bar ? 1 : 0);
            firstErrorOf("a" + code, letter || bar ? 2 : 1);
            firstErrorOf("|" + code, letter ? 2 : 1);
            firstErrorOf("a|b" + code, letter ? 4 : 3);
            firstErrorOf("a".repeat(19) + code, letter || bar ? 20 : 19);
            firstErrorOf(TWENTY_A + code, bar ? 21 : 20);
            firstErrorOf("|" + "b".repeat(19) + code, letter ? 21 : 20);
            firstErrorOf("|" + TWENTY_B + code, 21);
            firstErrorOf(TWENTY_A + "|" + "b".repeat(19) + code, letter ? 41 : 40);
            firstErrorOf(TWENTY_A + "|" + TWENTY_B + code, 41);
        }
        firstErrorOf("a!b!||", 1);
        firstErrorOf("ab|c|x|", 4);
        firstErrorOf("eabc|", 0);
    }

    // "the length of the buffer if there is none (also if the buffer is not a complete input text)"
    private static void promise31NoError() {
        firstErrorOf("", 0);
        for (int size = 1; size <= 20; size++) {
            firstErrorOf("abcddcbaaaaabbbbccdd".substring(0, size), size);
            firstErrorOf("|" + "abcddcbaaaaabbbbccdd".substring(0, size), size + 1);
            firstErrorOf("c".repeat(size) + "|", size + 1);
            firstErrorOf("c".repeat(size) + "|" + "d".repeat(21 - size), 22);
        }
        firstErrorOf("|", 1);
        firstErrorOf(TWENTY_A + "|" + TWENTY_B, 41);
    }

    // ".. if no input text, however long, begins with the characters before it and this character" (a full buffer)
    private static void promise31FullBuffer() {
        firstErrorOf("a".repeat(60), 20);
        firstErrorOf("|".repeat(60), 1);
        firstErrorOf("|" + "b".repeat(59), 21);
        firstErrorOf("~".repeat(60), 0);
        firstErrorOf(TWENTY_A + "|" + TWENTY_B + "|" + "c".repeat(18), 41);
        firstErrorOf("b".repeat(7) + "|" + "c".repeat(52), 28);
    }

    // "(The alphabet does not matter for this.)"
    private static void promise31TheAlphabetDoesNotMatter() {
        for (int letters = 2; letters <= 4; letters++) {
            int wanted = letters;
            Scene scene = Scene.NEW.then(x -> x.setAlphabet(wanted));
            edge.answers("31: first error of abcd|dcba with " + letters + " letters", scene.withBuffer("abcd|dcba"), 9,
                    x -> x.firstError());
            edge.answers("31: first error of d with " + letters + " letters", scene.withBuffer("d"), 1, x -> x.firstError());
            edge.answers("31: first error of abcde with " + letters + " letters", scene.withBuffer("abcde"), 4,
                    x -> x.firstError());
        }
    }

    private static void promise31ChangesNothing() {
        for (String buffer : BUFFERS) {
            edge.changesNothing("31: firstError of '" + buffer + "'", Scene.SOME.withBuffer(buffer), x -> x.firstError());
        }
    }

    public static void main(String[] args) {
        promise29Range();
        promise29SixtyCharacters();
        promise29WhichException();
        promise29NotUndoable();
        promise30EmptyAndFullBuffer();
        promise30NotUndoable();
        promise31EachCharacter();
        promise31NoError();
        promise31FullBuffer();
        promise31TheAlphabetDoesNotMatter();
        promise31ChangesNothing();
        edge.end();
    }
}
