/** What the tests share: answers are compared as texts, an exception as "throws." and its name. */
final class Checks {
    interface Call {
        Object answer();
    }

    private int passed = 0;
    private int failed = 0;

    static String answerOf(Call call) {
        try {
            return String.valueOf(call.answer());
        } catch (RuntimeException e) {
            return "throws." + e.getClass().getSimpleName();
        }
    }

    void same(String what, Object due, Call call) {
        String got = answerOf(call);
        if (got.equals(String.valueOf(due))) {
            passed++;
        } else {
            failed++;
            System.out.println(what + " answered " + got + ", due is " + due);
        }
    }

    int made() {
        return passed + failed;
    }

    void index(String what, Call call) {
        same(what, "throws.IndexOutOfBoundsException", call);
    }

    void argument(String what, Call call) {
        same(what, "throws.IllegalArgumentException", call);
    }

    void state(String what, Call call) {
        same(what, "throws.IllegalStateException", call);
    }

    void end(String test) {
        System.out.println(test + ": " + passed + " answers as due, " + failed + " not");
        if (failed > 0 || passed == 0) {
            System.exit(1);
        }
    }
}
