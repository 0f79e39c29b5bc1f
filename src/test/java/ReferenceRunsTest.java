import java.util.Random;

/** Long runs of calls with right and wrong arguments: the program and the reference must answer alike. */
public final class ReferenceRunsTest {
    private static final int RUNS = 250;
    private static final int CALLS = 512;

    private final Checks checks = new Checks("ReferenceRunsTest");
    private final Random random;
    private final String name;
    private BlockDistance x = new BlockDistance();
    private Reference r = new Reference();

    private ReferenceRunsTest(int seed) {
        random = new Random(seed);
        name = "run " + seed + ", call ";
    }

    /** Mostly from least to most, and now and then beside it. */
    private int number(int least, int most) {
        int way = random.nextInt(40);
        if (way == 0) {
            return least - 1;
        }
        if (way == 1) {
            return most + 1;
        }
        if (way == 2) {
            return random.nextBoolean() ? Integer.MIN_VALUE : Integer.MAX_VALUE;
        }
        return least + random.nextInt(Math.max(1, most - least + 1));
    }

    private int sizeOf(int text) {
        return r.length(text == 1 ? 1 : 0);
    }

    private void appendText(int k) {
        int most = random.nextInt(3) == 0 ? 21 : 12;
        int letters = random.nextInt(3) == 0 ? 2 : 4;
        appendLetters(k, random.nextInt(most), letters);
        appendCode(k, '|');
        appendLetters(k, random.nextInt(most), letters);
        if (random.nextInt(20) == 0) {
            appendCode(k, number(33, 126));
        }
        checks.due(name + k + " load()", Checks.answerOf(() -> r.load()), () -> x.load());
    }

    private void appendLetters(int k, int size, int letters) {
        for (int i = 0; i < size; i++) {
            appendCode(k, 'a' + random.nextInt(letters));
        }
    }

    private void appendCode(int k, int code) {
        checks.due(name + k + " append(" + code + ")",
                Checks.answerOf(() -> r.append(code)), () -> x.append(code));
    }

    private void change(int k) {
        int text = number(0, 1);
        int letter = number(0, random.nextInt(5) == 0 ? 3 : 1);
        int place = number(0, sizeOf(text));
        int index = number(0, sizeOf(text) - 1);
        int letters = number(2, 4);
        String call = name + k + " change " + text + " " + place + " " + index + " " + letter + " " + letters;
        switch (random.nextInt(8)) {
            case 0, 1, 2 -> checks.due(call + " insert", Checks.answerOf(() -> r.insert(text, place, letter)),
                    () -> x.insert(text, place, letter));
            case 3 -> checks.due(call + " remove", Checks.answerOf(() -> r.remove(text, index)),
                    () -> x.remove(text, index));
            case 4 -> checks.due(call + " replace", Checks.answerOf(() -> r.replace(text, index, letter)),
                    () -> x.replace(text, index, letter));
            case 5 -> checks.due(call + " exchange", Checks.answerOf(() -> r.exchange()), () -> x.exchange());
            case 6 -> checks.due(call + " setAlphabet", Checks.answerOf(() -> r.setAlphabet(letters)),
                    () -> x.setAlphabet(letters));
            default -> checks.due(call + " undo", Checks.answerOf(() -> r.undo()), () -> x.undo());
        }
    }

    private void ask(int k) {
        int i = number(0, sizeOf(0));
        int j = number(0, sizeOf(1));
        int bound = number(0, 20);
        int index = number(0, r.steps());
        int kind = number(0, 3);
        String call = name + k + " ask " + i + " " + j + " " + bound + " " + index + " " + kind;
        switch (random.nextInt(12)) {
            case 0 -> checks.due(call + " distance", Checks.answerOf(() -> r.distance()), () -> x.distance());
            case 1 -> checks.due(call + " prefix", Checks.answerOf(() -> r.prefix(i, j)), () -> x.prefix(i, j));
            case 2 -> checks.due(call + " steps", Checks.answerOf(() -> r.steps()), () -> x.steps());
            case 3 -> checks.due(call + " step", Checks.answerOf(() -> r.step(index)), () -> x.step(index));
            case 4 -> checks.due(call + " count", Checks.answerOf(() -> r.count(kind)), () -> x.count(kind));
            case 5 -> checks.due(call + " within", Checks.answerOf(() -> r.within(bound)), () -> x.within(bound));
            case 6 -> checks.due(call + " band", Checks.answerOf(() -> r.band(bound)), () -> x.band(bound));
            case 7 -> checks.due(call + " similarity", Checks.answerOf(() -> r.similarity()), () -> x.similarity());
            case 8 -> checks.due(call + " across", Checks.answerOf(() -> r.across(i, j)), () -> x.across(i, j));
            case 9 -> checks.due(call + " foundDistance", Checks.answerOf(() -> r.foundDistance()),
                    () -> x.foundDistance());
            case 10 -> checks.due(call + " foundEnd", Checks.answerOf(() -> r.foundEnd()), () -> x.foundEnd());
            default -> checks.due(call + " length", Checks.answerOf(() -> r.length(kind)), () -> x.length(kind));
        }
    }

    private void askBlocks(int k) {
        int size = number(1, 2);
        String call = name + k + " blocks " + size;
        switch (random.nextInt(12)) {
            case 0 -> checks.due(call + " setBlock", Checks.answerOf(() -> r.setBlock(size)), () -> x.setBlock(size));
            case 1, 2, 3, 4 -> checks.due(call + " measure", Checks.answerOf(() -> r.measure()), () -> x.measure());
            case 5, 6 -> checks.due(call + " hits", Checks.answerOf(() -> r.hits()), () -> x.hits());
            case 7, 8 -> checks.due(call + " misses", Checks.answerOf(() -> r.misses()), () -> x.misses());
            case 9 -> checks.due(call + " singleSteps", Checks.answerOf(() -> r.singleSteps()), () -> x.singleSteps());
            default -> checks.due(call + " missesToCome", Checks.answerOf(() -> r.missesToCome()),
                    () -> x.missesToCome());
        }
    }

    private void forecast(int k) {
        int text = number(0, 1);
        int letter = number(0, 3);
        int index = number(0, sizeOf(text) - 1);
        String call = name + k + " forecast " + text + " " + index + " " + letter;
        switch (random.nextInt(3)) {
            case 0 -> checks.due(call + " bestReplacement", Checks.answerOf(() -> r.bestReplacement(text)),
                    () -> x.bestReplacement(text));
            case 1 -> checks.due(call + " letter", Checks.answerOf(() -> r.letter(text, index)),
                    () -> x.letter(text, index));
            default -> checks.due(call + " ifReplaced", Checks.answerOf(() -> r.ifReplaced(text, index, letter)),
                    () -> x.ifReplaced(text, index, letter));
        }
    }

    private void useBuffer(int k) {
        int code = number(33, 126);
        String call = name + k + " buffer " + code;
        switch (random.nextInt(6)) {
            case 0, 1 -> appendCode(k, code);
            case 2 -> checks.due(call + " clearBuffer", Checks.answerOf(() -> r.clearBuffer()), () -> x.clearBuffer());
            case 3 -> appendLetters(k, random.nextInt(25), 4);
            case 4 -> checks.due(call + " firstError", Checks.answerOf(() -> r.firstError()), () -> x.firstError());
            default -> appendText(k);
        }
    }

    private void call(int k) {
        switch (random.nextInt(12)) {
            case 0, 1, 2 -> change(k);
            case 3, 4 -> ask(k);
            case 5, 6 -> askBlocks(k);
            case 7 -> forecast(k);
            case 8, 9 -> useBuffer(k);
            case 10 -> checks.due(name + k + " savedStates()", Checks.answerOf(() -> r.savedStates()),
                    () -> x.savedStates());
            default -> checks.due(name + k + " digest()", Checks.answerOf(() -> r.digest()), () -> x.digest());
        }
    }

    private boolean run() {
        for (int k = 0; k < CALLS && checks.allRight(); k++) {
            call(k);
        }
        return checks.allRight();
    }

    public static void main(String[] args) {
        Checks all = new Checks("ReferenceRunsTest");
        for (int seed = 0; seed < RUNS; seed++) {
            int number = seed;
            all.due("run " + seed, true, () -> new ReferenceRunsTest(number).run());
        }
        all.end();
    }
}
