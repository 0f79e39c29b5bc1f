/** Counts the answers that are not due, prints each of them, and ends the test with exit code 1 if there was one. */
final class Checks {
    interface Call {
        Object answer();
    }

    private final String test;
    private int made = 0;
    private int wrong = 0;

    Checks(String test) {
        this.test = test;
    }

    /** The answer as text, or "throws.Name" for an exception. */
    static String answerOf(Call call) {
        try {
            return String.valueOf(call.answer());
        } catch (RuntimeException e) {
            return "throws." + e.getClass().getSimpleName();
        }
    }

    void due(String call, Object want, Call got) {
        made++;
        String answer = answerOf(got);
        if (!answer.equals(String.valueOf(want))) {
            wrong++;
            System.out.println(test + ": " + call + " answered " + answer + ", due is " + want);
        }
    }

    void dueThrow(String call, Class<? extends RuntimeException> kind, Call got) {
        due(call, "throws." + kind.getSimpleName(), got);
    }

    boolean allRight() {
        return wrong == 0;
    }

    void end() {
        System.out.println(test + ": " + made + " answers, " + wrong + " wrong");
        if (wrong > 0 || made == 0) {
            System.exit(1);
        }
    }
}
