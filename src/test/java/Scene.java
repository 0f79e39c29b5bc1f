import java.util.ArrayList;
import java.util.List;
import java.util.function.Function;

/**
 * A situation that an object can be in, told by the calls that lead to it. Much of what an object holds
 * is seen only by calls that change it (undo, clearBuffer and their like), so each look is made at an
 * object of its own.
 */
final class Scene {
    interface Maker {
        BlockDistance make();
    }

    static final String TWENTY_A = "a".repeat(20);
    static final String TWENTY_B = "b".repeat(20);

    /** Texts with many keys in them: the number of misses that they would have tells what is in the table. */
    private static final String PROBE = "aabbabcdacbdddccbaab|bbaaabababdcdcaabbcd";

    /** Nothing was called yet. */
    static final Scene NEW = new Scene(BlockDistance::new);

    /** Some of everything: texts, saved states, a table, a buffer that could be loaded. */
    static final Scene SOME = of("abca", "bda").then(x -> x.insert(0, 2, 3)).then(x -> x.exchange())
            .then(x -> x.measure()).withBuffer("ab|c");

    /** Texts, saved states and buffer are full; two letters; blocks of one pair. */
    static final Scene FULL = of(TWENTY_A, TWENTY_B).then(x -> x.setAlphabet(3)).then(x -> x.setAlphabet(2))
            .then(x -> x.replace(0, 3, 1)).then(x -> x.exchange()).then(x -> x.remove(1, 0))
            .then(x -> x.insert(1, 4, 0)).then(x -> x.setBlock(1)).then(x -> x.measure()).withBuffer("a".repeat(60));

    static final Scene[] ALL = {NEW, SOME, FULL};

    private final Maker maker;

    Scene(Maker maker) {
        this.maker = maker;
    }

    static Scene of(String first, String second) {
        return NEW.withBuffer(first + "|" + second).then(x -> x.load());
    }

    BlockDistance make() {
        return maker.make();
    }

    /** The scene behind a call that is answered. */
    Scene then(Function<BlockDistance, Object> call) {
        return new Scene(() -> {
            BlockDistance x = make();
            call.apply(x);
            return x;
        });
    }

    /** The scene behind a call that may throw. */
    Scene thenTry(Function<BlockDistance, Object> call) {
        return new Scene(() -> {
            BlockDistance x = make();
            Checks.answerOf(() -> call.apply(x));
            return x;
        });
    }

    Scene withBuffer(String text) {
        return new Scene(() -> {
            BlockDistance x = make();
            x.clearBuffer();
            append(x, text);
            return x;
        });
    }

    /** The answer as text; an exception is an answer too, even that of a call that leads to the scene. */
    String answer(Function<BlockDistance, Object> call) {
        return Checks.answerOf(() -> call.apply(make()));
    }

    static void append(BlockDistance x, String text) {
        for (char c : text.toCharArray()) {
            x.append(c);
        }
    }

    static String text(BlockDistance x, int text) {
        StringBuilder letters = new StringBuilder();
        for (int k = 0; k < x.length(text); k++) {
            letters.append((char) ('a' + x.letter(text, k)));
        }
        return letters.toString();
    }

    static String texts(BlockDistance x) {
        return text(x, 0) + "|" + text(x, 1);
    }

    static String way(BlockDistance x) {
        StringBuilder steps = new StringBuilder();
        for (int k = 0; k < x.steps(); k++) {
            steps.append(x.step(k));
        }
        return steps.toString();
    }

    /** Hits, misses, single steps. */
    static String table(BlockDistance x) {
        return x.hits() + " " + x.misses() + " " + x.singleSteps();
    }

    /** The texts and the number of letters of the alphabet; the alphabet is 4 afterwards. */
    static String state(BlockDistance x) {
        return texts(x) + " " + x.setAlphabet(4);
    }

    /** The state as it is, as it is after one undo, after two, and so on; the last one is the undo's exception. */
    List<String> states() {
        List<String> states = new ArrayList<>();
        for (int undone = 0; undone <= 20; undone++) {
            int times = undone;
            String state = answer(x -> stateBehind(x, times));
            states.add(state);
            if (state.startsWith("throws")) {
                break;
            }
        }
        return states;
    }

    private static String stateBehind(BlockDistance x, int undos) {
        for (int k = 0; k < undos; k++) {
            x.undo();
        }
        return state(x);
    }

    String tableLook() {
        return answer(x -> table(x)) + ", size " + answer(x -> x.setBlock(2))
                + ", to come " + answer(x -> x.missesToCome()) + ", of the probe "
                + withBuffer(PROBE).then(x -> x.setAlphabet(4)).then(x -> x.load()).answer(x -> x.missesToCome())
                + ", measured " + answer(x -> x.measure() + " " + table(x));
    }

    String bufferLook() {
        Scene wide = then(x -> x.setAlphabet(4));
        return answer(x -> x.firstError()) + " of " + answer(x -> x.clearBuffer())
                + ", loaded " + wide.answer(x -> x.load() + " " + texts(x))
                + ", loaded with a bar more " + wide.answer(x -> x.append('|') + " " + x.load() + " " + texts(x))
                + ", appended " + answer(x -> x.append('a') + " " + x.firstError() + " " + x.clearBuffer());
    }

    String look() {
        return "digest " + answer(x -> x.digest()) + "\n    states " + states() + " of " + answer(x -> x.savedStates())
                + "\n    table " + tableLook() + "\n    buffer " + bufferLook();
    }
}
