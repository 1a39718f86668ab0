/** Long runs of calls, in which the class has to answer as the model does. */
public final class ModelTest {
    private static final int RUNS = 240;
    private static final int CALLS = 512;

    private final Checks checks = new Checks();
    private long seed = 1747;
    private FingerPosts posts;
    private Model model;
    private int pool;

    /** The same numbers each time: Knuth's 64-bit sequence. */
    private int below(int bound) {
        seed = seed * 6364136223846793005L + 1442695040888963407L;
        return (int) ((seed >>> 33) % bound);
    }

    private boolean rarely() {
        return below(40) == 0;
    }

    private int wrong(int last) {
        int[] all = {-1, last + 1, Integer.MIN_VALUE, Integer.MAX_VALUE, -7, last + 50};
        return all[below(all.length)];
    }

    private int upTo(int last) {
        return rarely() ? wrong(last) : below(last + 1);
    }

    private int name() {
        if (rarely()) {
            return wrong(65535);
        }
        switch (pool) {
            case 0:
                return below(24);
            case 1:
                return 1 << below(16);
            case 2:
                return 65535 - (1 << below(16));
            case 3:
                return below(65536);
            case 4:
                return 65535 - below(40);
            default:
                return below(8) * 8192 + below(3);
        }
    }

    private void change(String at) {
        int wood = upTo(1);
        int name = name();
        int miles = upTo(999);
        int rule = upTo(3);
        int kind = below(40);
        if (kind < 29) {
            checks.same(at + "put(" + wood + ", " + name + ", " + miles + ")",
                Checks.answerOf(() -> model.put(wood, name, miles)), () -> posts.put(wood, name, miles));
        } else if (kind < 36) {
            checks.same(at + "take(" + wood + ", " + name + ")",
                Checks.answerOf(() -> model.take(wood, name)), () -> posts.take(wood, name));
        } else if (kind < 37) {
            checks.same(at + "merge(" + wood + ", " + rule + ")",
                Checks.answerOf(() -> model.merge(wood, rule)), () -> posts.merge(wood, rule));
        } else if (kind < 38) {
            checks.same(at + "cut(" + wood + ", " + name + ")",
                Checks.answerOf(() -> model.cut(wood, name)), () -> posts.cut(wood, name));
        } else {
            int bits = rarely() ? wrong(65535) : below(65536) >> below(16);
            checks.same(at + "turn(" + wood + ", " + bits + ")",
                Checks.answerOf(() -> model.turn(wood, bits)), () -> posts.turn(wood, bits));
        }
    }

    private void ask(String at) {
        int wood = upTo(1);
        int name = name();
        int what = upTo(6);
        int place = upTo(46);
        boolean up = below(2) == 0;
        switch (below(8)) {
            case 0:
                checks.same(at + "miles(" + wood + ", " + name + ")",
                    Checks.answerOf(() -> model.miles(wood, name)), () -> posts.miles(wood, name));
                break;
            case 1:
                checks.same(at + "count(" + wood + ", " + what + ")",
                    Checks.answerOf(() -> model.count(wood, what)), () -> posts.count(wood, what));
                break;
            case 2:
                checks.same(at + "sign(" + wood + ", " + place + ", " + what + ")",
                    Checks.answerOf(() -> model.sign(wood, place, what)),
                    () -> posts.sign(wood, place, what));
                break;
            case 3:
                int ofWalk = upTo(2);
                checks.same(at + "walk(" + wood + ", " + name + ", " + ofWalk + ")",
                    Checks.answerOf(() -> model.walk(wood, name, ofWalk)),
                    () -> posts.walk(wood, name, ofWalk));
                break;
            case 4:
                checks.same(at + "step(" + wood + ", " + name + ", " + up + ")",
                    Checks.answerOf(() -> model.step(wood, name, up)),
                    () -> posts.step(wood, name, up));
                break;
            case 5:
                int k = upTo(23);
                checks.same(at + "at(" + wood + ", " + k + ")",
                    Checks.answerOf(() -> model.at(wood, k)), () -> posts.at(wood, k));
                break;
            case 6:
                askRange(at, wood, name);
                break;
            default:
                checks.same(at + "near(" + wood + ", " + name + ")",
                    Checks.answerOf(() -> model.near(wood, name)), () -> posts.near(wood, name));
        }
    }

    private void askRange(String at, int wood, int name) {
        int other = name();
        boolean turned = rarely();
        int low = turned ? Math.max(name, other) : Math.min(name, other);
        int high = turned ? Math.min(name, other) : Math.max(name, other);
        int what = upTo(3);
        checks.same(at + "range(" + wood + ", " + low + ", " + high + ", " + what + ")",
            Checks.answerOf(() -> model.range(wood, low, high, what)),
            () -> posts.range(wood, low, high, what));
    }

    private void askAll(String at) {
        int wood = upTo(1);
        int name = name();
        int other = name();
        int what = upTo(3);
        switch (below(5)) {
            case 0:
                checks.same(at + "far(" + wood + ")",
                    Checks.answerOf(() -> model.far(wood)), () -> posts.far(wood));
                break;
            case 1:
                checks.same(at + "unlike(" + name + ", " + other + ")",
                    Checks.answerOf(() -> model.unlike(name, other)), () -> posts.unlike(name, other));
                break;
            case 2:
                checks.same(at + "would(" + what + ")",
                    Checks.answerOf(() -> model.would(what)), () -> posts.would(what));
                break;
            case 3:
                checks.same(at + "advise(" + wood + ")",
                    Checks.answerOf(() -> model.advise(wood)), () -> posts.advise(wood));
                break;
            default:
                checks.same(at + "mean(" + wood + ")",
                    Checks.answerOf(() -> model.mean(wood)), () -> posts.mean(wood));
        }
    }

    private void run(int run) {
        posts = new FingerPosts();
        model = new Model();
        pool = run % 6;
        for (int call = 0; call < CALLS; call++) {
            String at = "run " + run + ", call " + call + ": ";
            switch (call % 4) {
                case 0:
                    change(at);
                    break;
                case 1:
                    ask(at);
                    break;
                case 2:
                    if (call % 8 == 2) {
                        askAll(at);
                    } else {
                        change(at);
                    }
                    break;
                default:
                    checks.same(at + "digest()", model.digest(), () -> posts.digest());
            }
        }
    }

    public static void main(String[] args) {
        ModelTest test = new ModelTest();
        for (int run = 0; run < RUNS; run++) {
            test.run(run);
        }
        test.checks.end("ModelTest");
    }
}
