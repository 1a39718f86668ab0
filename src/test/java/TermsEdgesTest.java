/** The edges that 'What it is' and 'Terms' name; each test bears the sentence that it is about. */
public final class TermsEdgesTest extends Sentences {
    /** Each call that takes a wood, with %d in its place; the other arguments are good ones. */
    private static final String[] OF_WOOD = {
        "put(%d, 0, 0)", "take(%d, 0)", "merge(%d, 0)", "cut(%d, 0)", "turn(%d, 0)", "miles(%d, 0)",
        "count(%d, 0)", "sign(%d, 0, 0)", "walk(%d, 0, 0)", "step(%d, 0, true)", "step(%d, 0, false)",
        "at(%d, 0)", "range(%d, 0, 0, 0)", "near(%d, 0)", "far(%d)", "advise(%d)", "mean(%d)"};

    /** Each call that takes a name, in the same way. */
    private static final String[] OF_NAME = {
        "put(0, %d, 0)", "take(0, %d)", "cut(0, %d)", "turn(0, %d)", "miles(0, %d)", "walk(0, %d, 0)",
        "step(0, %d, true)", "step(0, %d, false)", "range(0, %d, 65535, 0)", "range(0, 0, %d, 0)",
        "near(0, %d)", "unlike(%d, 5)", "unlike(5, %d)"};

    private void use() {
        sentence("used for at most 512 calls: the last one answers as the first", this::lastCall);
        sentence("used for at most 512 calls: the last one changes and is refused", this::lastChange);
        sentence("used for at most 512 calls: all of them refused", this::allRefused);
        sentence("used for at most 512 calls: all of them the dearest", this::allDearest);
        sentence("used for at most 512 calls: all of them put", this::allPut);
    }

    private void lastCall() {
        String empty = x.answer("digest()");
        for (int round = 0; round < 127; round++) {
            is("put(1, 65535, 999)", -1);
            is("merge(1, 0)", 0);
            is("cut(0, 0)", 1);
            is("take(1, 65535)", 999);
        }
        is("merge(0, 0)", 0);
        is("cut(0, 0)", 0);
        is("digest()", empty);
        isText("calls made", Posts.MOST_CALLS, x.calls());
    }

    private void lastChange() {
        while (x.calls() < Posts.MOST_CALLS - 1) {
            is("turn(0, 1)", STATE);
        }
        is("put(0, 5, 7)", -1);
        fresh();
        is("put(0, 5, 7)", -1);
        while (x.calls() < Posts.MOST_CALLS - 1) {
            is("put(0, 5, 7)", 7);
        }
        is("put(0, 65536, 7)", ARGUMENT);
    }

    private void allRefused() {
        String empty = new Posts().answer("digest()");
        while (x.calls() < Posts.MOST_CALLS - 1) {
            is("take(1, 65535)", STATE);
        }
        is("digest()", empty);
    }

    private void allDearest() {
        manyVillages(0, 0, 1, FULL);
        manyVillages(1, LAST_NAME - FULL + 1, 1, FULL);
        String full = x.answer("digest()");
        while (x.calls() < Posts.MOST_CALLS) {
            is("digest()", full);
        }
    }

    private void allPut() {
        manyVillages(0, 0, 1, FULL);
        while (x.calls() < Posts.MOST_CALLS - 1) {
            is("put(0, " + (x.calls() + 1) + ", 0)", STATE);
        }
        is("count(0, 0)", FULL);
    }

    private void names() {
        sentence("a name is a number, 0 to 65535: 0 is one", this::smallestName);
        sentence("a name is a number, 0 to 65535: 65535 is one", this::greatestName);
        sentence("a name is a number, 0 to 65535: no other number is one", this::noNames);
        sentence("the bit 15 counts 32768, the bit 0 counts 1", this::bits);
        sentence("the first unlike bit is the highest one", this::firstUnlikeBit);
        sentence("the bits that names share, from the bit 15 down one by one", this::sharedBits);
        sentence("the bits that names share: 16 for one name", this::sharedByOne);
    }

    private void smallestName() {
        is("put(0, 0, 4)", -1);
        is("miles(0, 0)", 4);
        is("walk(0, 0, 1)", 0);
        is("step(0, 0, true)", -1);
        is("step(0, 0, false)", -1);
        is("range(0, 0, 0, 0)", 1);
        is("near(0, 0)", 0);
        is("unlike(0, 0)", -1);
        is("turn(0, 0)", 0);
        is("cut(0, 0)", 1);
        is("take(1, 0)", 4);
    }

    private void greatestName() {
        is("put(0, 65535, 4)", -1);
        is("miles(0, 65535)", 4);
        is("walk(0, 65535, 1)", 65535);
        is("step(0, 65535, true)", -1);
        is("step(0, 65535, false)", -1);
        is("range(0, 65535, 65535, 0)", 1);
        is("near(0, 65535)", 65535);
        is("unlike(65535, 65535)", -1);
        is("cut(0, 65535)", 1);
        is("turn(1, 65535)", 0);
        is("turn(1, 65535)", 65535);
        is("take(1, 65535)", 4);
    }

    private void noNames() {
        for (String call : OF_NAME) {
            fresh();
            villages(0, 0, 5, LAST_NAME);
            refusedFor(ARGUMENT, call, NO_NAMES);
            woodsAre("wood 0: 0=1 5=2 65535=3; wood 1:");
        }
    }

    private void bits() {
        is("unlike(0, 32768)", 15);
        is("unlike(0, 1)", 0);
        villages(0, 0, 1, 32768);
        is("count(0, 5)", 32769);
        is("sign(0, 0, 0)", 15);
        is("sign(0, 1, 0)", 0);
        is("turn(0, 32768)", 0);
        woodsAre("wood 0: 0=3 32768=1 32769=2; wood 1:");
        is("turn(0, 1)", 1);
        woodsAre("wood 0: 1=3 32768=2 32769=1; wood 1:");
    }

    private void firstUnlikeBit() {
        is("unlike(0, 65535)", 15);
        is("unlike(32767, 32768)", 15);
        is("unlike(32767, 0)", 14);
        is("unlike(0, 3)", 1);
        is("unlike(1, 2)", 1);
        is("unlike(65533, 65534)", 1);
        villages(0, 32767);
        is("walk(0, 32768, 2)", 15);
        is("walk(0, 0, 2)", 14);
    }

    private void sharedBits() {
        villages(0, 0, 32768);
        is("count(0, 4)", 0);
        is("range(0, 0, 65535, 2)", 0);
        villages(1, 0, 1);
        is("count(1, 4)", 15);
        is("range(1, 0, 65535, 2)", 15);
        is("put(1, 16384, 0)", -1);
        is("count(1, 4)", 1);
        is("range(1, 0, 1, 2)", 15);
    }

    private void sharedByOne() {
        villages(0, 0);
        villages(1, LAST_NAME);
        is("count(0, 4)", 16);
        is("count(1, 4)", 16);
        is("range(0, 0, 65535, 2)", 16);
        is("range(1, 65535, 65535, 2)", 16);
    }

    private void woods() {
        sentence("there are two, 0 and 1: each has its own villages", this::eachWood);
        sentence("there are two, 0 and 1: no other number is one", this::noWoods);
        sentence("at most 24: by put, by cut and by merge", this::most);
        sentence("with different names: the same one in one wood, and in both", this::different);
        sentence("a village has miles, 0 to 999: both of these", this::leastAndMostMiles);
        sentence("a village has miles, 0 to 999: no other number", this::noMiles);
    }

    private void eachWood() {
        villages(0, 9);
        for (int wood = 0; wood < 2; wood++) {
            String w = "(" + wood;
            is("count" + w + ", 0)", 1 - wood);
            is("miles" + w + ", 9)", wood == 0 ? 1 : -1);
            is("sign" + w + ", 0, 2)", wood == 0 ? 9 : INDEX);
            is("walk" + w + ", 0, 1)", wood == 0 ? 9 : STATE);
            is("step" + w + ", 0, true)", wood == 0 ? 9 : -1);
            is("at" + w + ", 0)", wood == 0 ? 9 : INDEX);
            is("range" + w + ", 0, 65535, 0)", 1 - wood);
            is("near" + w + ", 9)", wood == 0 ? 9 : -1);
            is("advise" + w + ")", wood == 0 ? 9 : -1);
            is("turn" + w + ", 0)", wood == 0 ? 9 : STATE);
        }
        villages(0, 10);
        is("far(0)", 3);
        is("far(1)", -1);
        is("mean(0)", 1.0);
        is("mean(1)", 0.0);
        is("take(1, 9)", STATE);
        is("merge(1, 0)", 0);
        woodsAre("wood 0: 9=1 10=1; wood 1:");
        is("merge(0, 0)", 0);
        woodsAre("wood 0:; wood 1: 9=1 10=1");
        is("put(1, 11, 4)", -1);
        is("cut(1, 10)", 2);
        woodsAre("wood 0: 10=1 11=4; wood 1: 9=1");
    }

    private void noWoods() {
        for (String call : OF_WOOD) {
            fresh();
            villages(0, 0);
            refusedFor(INDEX, call, NO_WOODS);
            is("take(0, 0)", 1);
            villages(1, 0);
            refusedFor(INDEX, call, NO_WOODS);
            woodsAre("wood 0:; wood 1: 0=1");
        }
    }

    private void most() {
        manyVillages(0, 0, 1, FULL);
        refused(STATE, "put(0, 24, 0)");
        manyVillages(1, 0, 1, FULL);
        refused(STATE, "put(1, 24, 0)");
        is("merge(0, 1)", FULL);
        is("count(1, 0)", FULL);
        refused(STATE, "put(1, 24, 0)");
        is("cut(1, 0)", FULL);
        is("count(0, 0)", FULL);
        refused(STATE, "put(0, 24, 0)");
        is("put(1, 24, 0)", -1);
        refused(STATE, "merge(0, 0)", "merge(1, 0)");
        is("take(0, 11)", 12);
        is("merge(0, 0)", 0);
        is("count(1, 0)", FULL);
        refused(STATE, "put(1, 11, 0)");
    }

    private void different() {
        is("put(0, 7, 1)", -1);
        is("put(0, 7, 2)", 1);
        is("count(0, 0)", 1);
        is("put(1, 7, 3)", -1);
        is("merge(0, 1)", 1);
        is("count(1, 0)", 1);
        woodsAre("wood 0:; wood 1: 7=3");
        is("take(1, 7)", 3);
        is("take(1, 7)", STATE);
    }

    private void leastAndMostMiles() {
        is("put(0, 1, 0)", -1);
        is("put(0, 2, 999)", -1);
        woodsAre("wood 0: 1=0 2=999; wood 1:");
        is("put(0, 1, 999)", 0);
        is("put(0, 2, 0)", 999);
        woodsAre("wood 0: 1=999 2=0; wood 1:");
    }

    private void noMiles() {
        is("put(0, 1, 500)", -1);
        refusedFor(ARGUMENT, "put(0, 1, %d)", NO_MILES);
        refusedFor(ARGUMENT, "put(0, 2, %d)", NO_MILES);
        woodsAre("wood 0: 1=500; wood 1:");
    }

    private void signs() {
        sentence("a post asks for the first bit by which they are unlike, none where all are alike",
            this::noPostWhereAlike);
        sentence("a wood with a village or more is told by signs", this::woodWithSigns);
        sentence("if it is one, its name; otherwise a post with two sides", this::nameOrPost);
        sentence("signs stand in a row, at places from 0, the low side first", this::row);
        sentence("walking from the first sign on till one comes to a name", this::walking);
        sentence("a path: how many posts one comes to by its own name", this::paths);
    }

    private void noPostWhereAlike() {
        villages(0, 65534, 65535);
        is("count(0, 1)", 1);
        is("sign(0, 0, 0)", 0);
        villages(1, 0, 1, 32768);
        is("count(1, 1)", 2);
        is("sign(1, 0, 0)", 15);
        is("sign(1, 1, 0)", 0);
        is("count(1, 2)", 2);
    }

    private void woodWithSigns() {
        refused(INDEX, "sign(0, 0, 0)");
        villages(0, 1);
        is("sign(0, 0, 1)", 1);
        refused(INDEX, "sign(0, 1, 1)");
        villages(0, 2);
        is("sign(0, 2, 1)", 1);
        refused(INDEX, "sign(0, 3, 1)");
        is("take(0, 1)", 1);
        is("take(0, 2)", 1);
        refused(INDEX, "sign(0, 0, 0)");
        manyVillages(0, 0, 1, FULL);
        is("sign(0, 0, 1)", FULL);
        is("sign(0, 46, 1)", 1);
        refused(INDEX, "sign(0, 47, 1)");
    }

    private void nameOrPost() {
        villages(0, 6);
        told("sign(0, 0, %d)", -1, 1, 6, 6, -1, -1, 0);
        villages(0, 4);
        told("sign(0, 0, %d)", 1, 2, 4, 6, 1, 2, 0);
        told("sign(0, 1, %d)", -1, 1, 4, 4, -1, -1, 1);
        told("sign(0, 2, %d)", -1, 1, 6, 6, -1, -1, 1);
        is("take(0, 4)", 1);
        told("sign(0, 0, %d)", -1, 1, 6, 6, -1, -1, 0);
    }

    private void row() {
        villages(0, 0, 1, 2, 3);
        int[] smallest = {0, 0, 0, 1, 2, 2, 3};
        int[] names = {4, 2, 1, 1, 2, 1, 1};
        for (int place = 0; place < smallest.length; place++) {
            is("sign(0, " + place + ", 2)", smallest[place]);
            is("sign(0, " + place + ", 1)", names[place]);
        }
        is("sign(0, 7, 2)", INDEX);
    }

    private void walking() {
        villages(0, 21845);
        for (int name : new int[] {0, 21845, 65535}) {
            is("walk(0, " + name + ", 0)", 0);
            is("walk(0, " + name + ", 1)", 21845);
        }
        longestPaths(1);
        is("walk(1, 0, 1)", 0);
        is("walk(1, 65535, 1)", 32768);
        is("walk(1, 32767, 1)", 16384);
        is("walk(1, 3, 1)", 2);
    }

    private void paths() {
        villages(0, 5);
        is("walk(0, 5, 0)", 0);
        is("count(0, 2)", 0);
        longestPaths(1);
        is("walk(1, 0, 0)", 16);
        is("walk(1, 1, 0)", 16);
        is("walk(1, 2, 0)", 15);
        is("walk(1, 32768, 0)", 1);
        is("count(1, 2)", 16);
    }

    private void exceptions() {
        sentence("a method that throws an exception changes nothing: put, take", this::unchangedByPutAndTake);
        sentence("a method that throws an exception changes nothing: merge, cut, turn",
            this::unchangedByMergeCutTurn);
        sentence("a method that throws an exception changes nothing: what asks", this::unchangedByAsking);
        sentence("the one named first: a wrong wood ahead of all", this::indexFirst);
        sentence("the one named first: a wrong number ahead of a wrong name", this::whatFirst);
        sentence("the one named first: a wrong name ahead of a wrong state", this::argumentFirst);
    }

    private void unchangedByPutAndTake() {
        manyVillages(0, 1, 3, FULL);
        villages(1, 1, 65535);
        String before = x.woods();
        refused(INDEX, "put(2, 5, 5)", "take(2, 1)");
        refused(ARGUMENT, "put(0, 65536, 5)", "put(0, 1, 1000)", "put(1, 1, -1)", "take(0, -1)");
        refused(STATE, "put(0, 0, 5)", "put(0, 2, 5)", "put(0, 65535, 5)", "take(0, 0)", "take(1, 2)");
        woodsAre(before);
    }

    private void unchangedByMergeCutTurn() {
        manyVillages(0, 1, 3, FULL);
        villages(1, 1, 65535);
        String before = x.woods();
        refused(INDEX, "merge(2, 0)", "merge(0, 4)", "cut(2, 4)", "turn(2, 1)");
        refused(ARGUMENT, "cut(0, 65536)", "turn(0, 65536)", "turn(1, -1)");
        refused(STATE, "merge(0, 0)", "merge(1, 0)", "merge(0, 2)", "merge(1, 2)", "cut(0, 4)", "cut(1, 2)");
        woodsAre(before);
        fresh();
        villages(1, 1, 65535);
        refused(STATE, "turn(0, 1)", "cut(0, 0)");
        woodsAre("wood 0:; wood 1: 1=1 65535=2");
    }

    private void unchangedByAsking() {
        villages(0, 8, 9, 300);
        refused(INDEX, "miles(2, 8)", "count(0, 7)", "sign(0, 5, 0)", "sign(0, 0, 7)", "walk(0, 8, 3)",
            "step(2, 8, true)", "at(0, 3)", "range(0, 8, 9, 4)", "near(2, 8)", "far(2)", "would(4)",
            "advise(2)", "mean(2)");
        refused(ARGUMENT, "miles(0, -1)", "walk(0, 65536, 1)", "step(0, -1, true)", "range(0, 9, 8, 0)",
            "near(0, 65536)", "unlike(-1, 0)");
        refused(STATE, "walk(1, 8, 1)");
        woodsAre("wood 0: 8=1 9=2 300=3; wood 1:");
    }

    private void indexFirst() {
        refused(INDEX, "take(2, 0)", "take(2, 65536)", "turn(2, 0)", "turn(-1, 65536)", "walk(2, 0, 0)",
            "walk(2, 65536, 0)", "walk(0, 0, 3)", "cut(2, 65536)", "put(2, 0, 1000)", "put(2, -1, 1000)",
            "miles(2, 65536)", "step(2, -1, true)", "step(2, -1, false)", "near(2, 65536)", "range(2, 1, 0, 0)",
            "range(2, -1, 0, 0)");
        manyVillages(0, 0, 2, FULL);
        manyVillages(1, 1, 2, FULL);
        refused(INDEX, "put(2, 50, 5)", "put(-1, 50, 5)", "merge(2, 0)", "merge(0, 4)", "merge(1, -1)",
            "merge(-1, 4)", "cut(2, 0)", "cut(-1, 0)");
    }

    private void whatFirst() {
        villages(0, 5);
        refused(INDEX, "walk(0, 65536, 3)", "walk(0, -1, -1)", "walk(1, 65536, 3)", "range(0, -1, 0, 4)",
            "range(0, 0, 65536, 4)", "range(0, 1, 0, 4)", "range(0, 1, 0, -1)", "range(0, 65536, -1, -1)");
    }

    private void argumentFirst() {
        refused(ARGUMENT, "take(0, 65536)", "take(0, -1)", "turn(0, 65536)", "turn(0, -1)", "walk(0, 65536, 0)",
            "walk(0, -1, 0)");
        manyVillages(0, 0, 2, FULL);
        villages(1, 1);
        refused(ARGUMENT, "put(0, 65536, 5)", "put(0, -1, 5)", "put(0, 1, 1000)", "put(0, 1, -1)",
            "cut(0, 65536)", "cut(0, -1)", "cut(1, 65536)");
    }

    public static void main(String[] args) {
        TermsEdgesTest test = new TermsEdgesTest();
        test.use();
        test.names();
        test.woods();
        test.signs();
        test.exceptions();
        test.checks.end("TermsEdgesTest");
    }
}
