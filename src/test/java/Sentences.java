/** Tests of the document's sentences: each has a new object, and has to check something. */
abstract class Sentences {
    static final int MIN = Integer.MIN_VALUE;
    static final int MAX = Integer.MAX_VALUE;
    static final int LAST_NAME = 65535;
    static final int FULL = 24;

    static final String INDEX = "throws.IndexOutOfBoundsException";
    static final String ARGUMENT = "throws.IllegalArgumentException";
    static final String STATE = "throws.IllegalStateException";

    /** Beside the next ones: what would be right if only some of its bits were looked at. */
    static final int[] NO_WOODS = {-1, 2, 3, 256, 65536, 65537, MIN, MIN + 1, MAX};
    static final int[] NO_NAMES = {-1, 65536, 65541, -65536, -65531, MIN, MIN + 5, MAX};
    static final int[] NO_MILES = {-1, 1000, 1024, 65536, -65536, MIN, MAX};

    final Checks checks = new Checks();
    Posts x = new Posts();
    private String sentence = "";

    void sentence(String words, Runnable test) {
        sentence = words;
        x = new Posts();
        int before = checks.made();
        try {
            test.run();
        } catch (RuntimeException | AssertionError e) {
            checks.same(sentence, "as due", () -> e);
        }
        if (checks.made() == before) {
            checks.same(sentence, "as due", () -> "nothing");
        }
    }

    void fresh() {
        x = new Posts();
    }

    void is(String call, Object due) {
        checks.same(sentence + ": " + call, due, () -> x.answer(call));
    }

    void isText(String what, Object due, Object got) {
        checks.same(sentence + ": " + what, due, () -> got);
    }

    /** A call with %d in the place of an argument, for which all of these have to be refused. */
    void refusedFor(String due, String call, int... arguments) {
        for (int argument : arguments) {
            refused(due, String.format(call, argument));
        }
    }

    void refused(String due, String... calls) {
        for (String call : calls) {
            String before = x.answer("digest()");
            is(call, due);
            isText(call + " changes nothing", before, x.answer("digest()"));
        }
    }

    void refusedWhat(String call, int last) {
        refusedFor(INDEX, call, -1, last + 1, last + 256, last - 256, MIN, MAX);
    }

    /** Puts villages up; their miles are 1, 2, 3 and so on. */
    void villages(int wood, int... names) {
        for (int k = 0; k < names.length; k++) {
            put(wood, names[k], k + 1);
        }
    }

    /** The names from first on, each greater by step than the one before; miles as above. */
    void manyVillages(int wood, int first, int step, int many) {
        for (int k = 0; k < many; k++) {
            put(wood, first + k * step, k + 1);
        }
    }

    /** Each name but 0 has one bit; the path of the smallest two is the longest that there can be. */
    void longestPaths(int wood) {
        put(wood, 0, 1);
        for (int bit = 0; bit < 16; bit++) {
            put(wood, 1 << bit, bit + 2);
        }
    }

    private void put(int wood, int name, int miles) {
        is("put(" + wood + ", " + name + ", " + miles + ")", -1);
    }

    void woodsAre(String due) {
        isText("the woods", due, x.woods());
    }

    /** What a call tells for each number of it, from 0 on; %d stands for the number. */
    void told(String call, Object... due) {
        for (int what = 0; what < due.length; what++) {
            is(String.format(call, what), due[what]);
        }
    }
}
