import java.util.ArrayList;
import java.util.List;
import java.util.function.Function;

/**
 * The checks of an edge: what is answered there, what is refused there, and what stays as it was.
 * The text of each check begins with the number of the promise.
 */
final class Boundary {
    static final Class<IndexOutOfBoundsException> OUTSIDE = IndexOutOfBoundsException.class;
    static final Class<IllegalArgumentException> WRONG = IllegalArgumentException.class;
    static final Class<IllegalStateException> NOT_NOW = IllegalStateException.class;
    static final int MIN = Integer.MIN_VALUE;
    static final int MAX = Integer.MAX_VALUE;

    /** What is no text: the numbers beside 0 and 1, and far ones. */
    static final int[] NO_TEXTS = {-1, 2, -2, 3, MIN, MAX};

    private final Checks checks;

    Boundary(String test) {
        checks = new Checks(test);
    }

    void due(String what, Object want, Checks.Call got) {
        checks.due(what, want, got);
    }

    void answers(String what, Scene scene, Object want, Function<BlockDistance, Object> call) {
        checks.due(what, want, () -> call.apply(scene.make()));
    }

    /** The call throws just this exception, and nothing has changed by it. */
    void refuses(String what, Scene scene, Class<? extends RuntimeException> kind, Function<BlockDistance, Object> call) {
        checks.dueThrow(what, kind, () -> call.apply(scene.make()));
        checks.due(what + ": nothing has changed", scene.look(), () -> scene.thenTry(call).look());
    }

    void changesNothing(String what, Scene scene, Function<BlockDistance, Object> call) {
        checks.due(what + ": changes nothing", scene.look(), () -> scene.then(call).look());
    }

    /** The call is undoable, and it leaves the table (and so does its undo). */
    void savesOne(String what, Scene scene, Function<BlockDistance, Object> call) {
        Scene after = scene.then(call);
        Scene undone = after.then(x -> x.undo());
        List<String> want = new ArrayList<>(scene.states());
        want.remove(want.size() - 1);
        int kept = Math.min(6, want.size());
        want.subList(kept, want.size()).clear();
        want.add("throws.IllegalStateException");
        checks.due(what + ": saved states", kept, () -> after.make().savedStates());
        checks.due(what + ": the states that are saved", want,
                () -> after.states().subList(1, after.states().size()));
        checks.due(what + ": undo tells what is left", kept - 1, () -> after.make().undo());
        checks.due(what + ": numbers of the table", scene.answer(Scene::table), () -> Scene.table(after.make()));
        checks.due(what + " and undo: the table", scene.tableLook(), () -> undone.tableLook());
        checks.due(what + " and undo: the buffer", after.bufferLook(), () -> undone.bufferLook());
    }

    /** The call is not undoable: the same states are saved as before it. */
    void savesNone(String what, Scene scene, Function<BlockDistance, Object> call) {
        checks.due(what + ": saves nothing", scene.states(), () -> scene.then(call).states());
    }

    void end() {
        checks.end();
    }
}
