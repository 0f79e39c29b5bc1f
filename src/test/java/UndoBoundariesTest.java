import java.math.BigInteger;
import java.util.ArrayList;
import java.util.List;
import java.util.function.Function;

/** Promises 32 to 34: a test for each sentence of the document that names an edge; the sentence stands ahead of it. */
public final class UndoBoundariesTest {
    private static final Boundary edge = new Boundary("UndoBoundariesTest");
    private static final String TWENTY_A = Scene.TWENTY_A;
    private static final String TWENTY_B = Scene.TWENTY_B;

    private static final String[] UNDOABLE = {"load", "insert", "remove", "replace", "exchange", "setAlphabet"};

    private static int call(BlockDistance x, String name) {
        switch (name) {
            case "load":
                Scene.append(x, "ab|cab");
                return x.load();
            case "insert":
                return x.insert(0, 0, 1);
            case "remove":
                return x.remove(1, 0);
            case "replace":
                return x.replace(0, 0, 2);
            case "exchange":
                return x.exchange();
            default:
                return x.setAlphabet(3);
        }
    }

    /** Saved states that all are others: text 0 is one letter longer in each. */
    private static Scene saved(int number) {
        Scene scene = Scene.NEW;
        for (int k = 0; k < number; k++) {
            int letter = k % 3;
            scene = scene.then(x -> x.insert(0, x.length(0), letter));
        }
        return scene;
    }

    // "Throws IllegalStateException if no state is saved"
    private static void promise32NoStateIsSaved() {
        edge.refuses("32: undo at first", Scene.NEW, Boundary.NOT_NOW, x -> x.undo());
        edge.refuses("32: undo behind calls that save nothing", Scene.NEW.withBuffer("a|b").then(x -> x.measure())
                .then(x -> x.setBlock(1)), Boundary.NOT_NOW, x -> x.undo());
        edge.refuses("32: undo behind a refused load", Scene.NEW.withBuffer("a|e").thenTry(x -> x.load()), Boundary.NOT_NOW,
                x -> x.undo());
        for (int number = 1; number <= 6; number++) {
            Scene scene = saved(number);
            for (int k = 0; k < number; k++) {
                scene = scene.then(x -> x.undo());
            }
            edge.refuses("32: undo " + (number + 1) + " of " + number, scene, Boundary.NOT_NOW, x -> x.undo());
            edge.answers("32: texts behind " + number + " undos", scene, "|", x -> Scene.texts(x));
        }
    }

    // "Restores the state that was saved last, and removes it" "Returns the number of saved states that are left."
    private static void promise32TheStateThatWasSavedLast() {
        for (int number = 1; number <= 6; number++) {
            int made = number;
            edge.answers("32: undo of one of " + number, saved(number), (made - 1) + " " + (made - 1),
                    x -> x.undo() + " " + x.length(0));
        }
        edge.answers("32: undo of three calls, the last first", Scene.SOME, "2 abdca|bda 1 abca|bda 0 |",
                x -> x.undo() + " " + Scene.texts(x) + " " + x.undo() + " " + Scene.texts(x) + " " + x.undo() + " "
                + Scene.texts(x));
        edge.answers("32: undo is not undone by undo", saved(3).then(x -> x.undo()), "1 a|", x -> x.undo() + " "
                + Scene.texts(x));
        edge.answers("32: a state that was restored is no longer saved", saved(3).then(x -> x.undo()).then(x -> x.exchange())
                .then(x -> x.undo()), "1 a|", x -> x.undo() + " " + Scene.texts(x));
    }

    // "At most 6 states are saved; when one more is saved, the oldest one is discarded."
    private static void promise32TheSeventhState() {
        for (int number = 6; number <= 20; number++) {
            List<String> want = new ArrayList<>();
            for (int size = number; size >= number - 6; size--) {
                want.add("abcabcabcabcabcabcab".substring(0, size) + "| 4");
            }
            want.add("throws.IllegalStateException");
            Scene scene = saved(number);
            edge.due("32: the states that are saved of " + number, want, () -> scene.states());
            edge.answers("32: undo with " + number + " saved", scene, "6 5 4 3 2 1 0", x -> x.savedStates() + " " + x.undo() + " "
                    + x.undo() + " " + x.undo() + " " + x.undo() + " " + x.undo() + " " + x.undo());
            edge.refuses("32: the seventh undo of " + number, scene.then(x -> x.undo()).then(x -> x.undo()).then(x -> x.undo())
                    .then(x -> x.undo()).then(x -> x.undo()).then(x -> x.undo()), Boundary.NOT_NOW, x -> x.undo());
        }
        for (String name : UNDOABLE) {
            Scene full = saved(1).then(x -> x.insert(1, 0, 0)).then(x -> x.exchange()).then(x -> x.insert(0, 0, 2))
                    .then(x -> x.insert(0, 0, 1)).then(x -> x.exchange());
            edge.answers("32: six saved before " + name, full, 6, x -> x.savedStates());
            edge.savesOne("32: the seventh by " + name, full, x -> call(x, name));
            edge.savesOne("32: the eighth by " + name, full.then(x -> x.exchange()).then(x -> x.exchange()),
                    x -> call(x, name));
            edge.savesOne("32: the sixth again by " + name, full.then(x -> x.undo()), x -> call(x, name));
        }
    }

    // "The state consists of the texts and the alphabet."
    private static void promise32WhatTheStateIs() {
        Scene scene = Scene.of("ab", "b");
        edge.answers("32: undo of an alphabet", scene.then(x -> x.setAlphabet(2)).then(x -> x.undo()), "ab|b 4",
                x -> Scene.state(x));
        edge.answers("32: letters behind the undo of an alphabet", scene.then(x -> x.setAlphabet(2)).then(x -> x.undo()), 3,
                x -> x.insert(0, 0, 3));
        edge.answers("32: undo back to letters that would be refused", Scene.of("d", "").then(x -> x.remove(0, 0))
                .then(x -> x.setAlphabet(2)).then(x -> x.undo()).then(x -> x.undo()), "d| 4", x -> Scene.state(x));
        edge.answers("32: undo back to a smaller alphabet", scene.then(x -> x.setAlphabet(2)).then(x -> x.setAlphabet(3))
                .then(x -> x.undo()), "ab|b 2", x -> Scene.state(x));
        edge.answers("32: undo of full texts", Scene.of(TWENTY_A, TWENTY_B).withBuffer("|").then(x -> x.load())
                .then(x -> x.undo()), TWENTY_A + "|" + TWENTY_B + " 4", x -> Scene.state(x));
        edge.answers("32: undo back to empty texts", Scene.of(TWENTY_A, TWENTY_B).then(x -> x.undo()), "| 4",
                x -> Scene.state(x));
    }

    // The buffer, the block size, the table with its keys and its numbers do not belong to the state.
    private static void promise32WhatTheStateIsNot() {
        Scene scene = Scene.SOME.then(x -> x.setBlock(1)).then(x -> x.measure()).withBuffer("ab|d");
        String table = scene.answer(x -> Scene.table(x));
        for (int undos = 1; undos <= 3; undos++) {
            scene = scene.then(x -> x.undo());
            edge.answers("32: table behind " + undos + " undos", scene, table, x -> Scene.table(x));
            edge.answers("32: block size behind " + undos + " undos", scene, 1, x -> x.setBlock(2));
            edge.answers("32: buffer behind " + undos + " undos", scene, "4 3 ab|d", x -> x.firstError() + " " + x.load() + " "
                    + Scene.texts(x));
        }
    }

    // "if it does not throw an exception"
    private static void promise33CallsThatThrow() {
        for (Scene scene : new Scene[] {Scene.NEW, Scene.SOME.withBuffer("x"), Scene.FULL}) {
            String number = scene.answer(x -> x.savedStates());
            List<Function<BlockDistance, Object>> refused = List.of(x -> x.load(), x -> x.insert(2, 0, 0),
                    x -> x.insert(0, 0, 4), x -> x.remove(0, 20), x -> x.replace(0, 20, 0), x -> x.setAlphabet(5));
            for (int k = 0; k < refused.size(); k++) {
                Function<BlockDistance, Object> one = refused.get(k);
                edge.answers("33: saved states behind refused call " + k, scene.thenTry(one), number, x -> x.savedStates());
                edge.due("33: the states behind refused call " + k, scene.states(), () -> scene.thenTry(one).states());
            }
        }
    }

    // "Returns the number of saved states, 0 to 6."
    private static void promise33ZeroToSix() {
        edge.answers("33: saved states at first", Scene.NEW, 0, x -> x.savedStates());
        for (int number = 1; number <= 20; number++) {
            edge.answers("33: saved states behind " + number, saved(number), Math.min(6, number), x -> x.savedStates());
            edge.answers("33: saved states behind " + number + " and an undo", saved(number).then(x -> x.undo()),
                    Math.min(6, number) - 1, x -> x.savedStates());
        }
        for (Scene scene : Scene.ALL) {
            edge.changesNothing("33: savedStates", scene, x -> x.savedStates());
        }
    }

    private static List<Long> digestList(BlockDistance x) {
        List<Long> values = new ArrayList<>();
        for (int text = 0; text <= 1; text++) {
            values.add((long) x.length(text));
            for (int k = 0; k < x.length(text); k++) {
                values.add((long) x.letter(text, k));
            }
        }
        int[] answers = {x.distance(), x.steps(), x.foundDistance(), x.foundEnd(), x.hits(), x.misses(), x.singleSteps(),
            x.missesToCome()};
        for (int answer : answers) {
            values.add((long) answer);
        }
        for (int k = 0; k < x.steps(); k++) {
            values.add((long) x.step(k));
        }
        values.add((long) x.bestReplacement(0));
        values.add((long) x.bestReplacement(1));
        for (int i = 0; i <= x.length(0); i++) {
            for (int j = 0; j <= x.length(1); j++) {
                values.add((long) x.prefix(i, j));
            }
        }
        values.add(0, (long) x.setAlphabet(4));
        return values;
    }

    /** The hash in whole numbers without a bound, cut to 64 bits at the end: so an overflow is told by itself. */
    private static BigInteger unbounded(List<Long> values) {
        BigInteger hash = BigInteger.valueOf(4194);
        for (long value : values) {
            hash = hash.multiply(BigInteger.valueOf(31)).add(BigInteger.valueOf(value));
        }
        return hash;
    }

    // "The hash starts at 4194." "The values are: .." (empty texts, full texts, NONE among the values)
    private static void promise34TheList() {
        Scene[] scenes = {Scene.NEW, Scene.SOME, Scene.FULL, Scene.of("", "dcb"), Scene.of("dcb", ""), Scene.of("a", "c"),
            Scene.of("aba", "bab").then(x -> x.measure()), Scene.of(TWENTY_A, "").then(x -> x.setAlphabet(2)),
            Scene.of("bababbabb", "ababaabaa").then(x -> x.measure()).then(x -> x.measure()),
            Scene.of("aabbabcdacbdddccbaab", "bbaaabababdcdcaabbcd").then(x -> x.setBlock(1)).then(x -> x.measure())};
        for (int k = 0; k < scenes.length; k++) {
            Scene scene = scenes[k];
            edge.answers("34: digest in scene " + k, scene, scene.answer(x -> unbounded(digestList(x)).longValue()),
                    x -> x.digest());
            edge.changesNothing("34: digest in scene " + k, scene, x -> x.digest());
        }
    }

    // "in long arithmetic with overflow"
    private static void promise34Overflow() {
        edge.answers("34: the hash of full texts is beyond a long", Scene.FULL, true,
                x -> unbounded(digestList(x)).bitLength() > 64);
        edge.answers("34: digest of full texts", Scene.FULL,
                Scene.FULL.answer(x -> unbounded(digestList(x)).longValue()), x -> x.digest());
        // 14 values at first: 31 to the 14th times 4194 is beyond a long too
        BigInteger first = unbounded(List.of(4L, 0L, 0L, 0L, 0L, 0L, 0L, 0L, 0L, 0L, 0L, -1L, -1L, 0L));
        edge.due("34: the hash at first is beyond a long", true, () -> first.bitLength() > 64);
        edge.answers("34: digest at first", Scene.NEW, first.longValue(), x -> x.digest());
    }

    // The buffer, the block size and the saved states are not in the list.
    private static void promise34WhatIsNotInTheList() {
        String first = Scene.NEW.answer(x -> x.digest());
        edge.answers("34: digest with a buffer", Scene.NEW.withBuffer("ab|c"), first, x -> x.digest());
        edge.answers("34: digest with another block size", Scene.NEW.then(x -> x.setBlock(1)), first, x -> x.digest());
        edge.answers("34: digest with a saved state", Scene.NEW.then(x -> x.exchange()), first, x -> x.digest());
        edge.answers("34: digest of the alphabet", Scene.NEW.then(x -> x.setAlphabet(2)),
                unbounded(List.of(2L, 0L, 0L, 0L, 0L, 0L, 0L, 0L, 0L, 0L, 0L, -1L, -1L, 0L)).longValue(), x -> x.digest());
    }

    public static void main(String[] args) {
        promise32NoStateIsSaved();
        promise32TheStateThatWasSavedLast();
        promise32TheSeventhState();
        promise32WhatTheStateIs();
        promise32WhatTheStateIsNot();
        promise33CallsThatThrow();
        promise33ZeroToSix();
        promise34TheList();
        promise34Overflow();
        promise34WhatIsNotInTheList();
        edge.end();
    }
}
