/** The edges that the promises 7 to 16 name; each test bears the sentence that it is about. */
public final class ThereIsEdgesTest extends Sentences {
    private void miles() {
        sentence("7: its miles, 0 and 999 too", this::milesToldFully);
        sentence("7: -1 if there is no such village", this::milesOfNone);
        sentence("7: IndexOutOfBounds if wood is not 0 or 1",
            () -> refusedFor(INDEX, "miles(%d, 0)", NO_WOODS));
        sentence("7: IllegalArgument if name is not 0 to 65535", this::milesNoName);
    }

    private void milesToldFully() {
        is("put(0, 0, 0)", -1);
        is("put(0, 65535, 999)", -1);
        is("put(1, 0, 1)", -1);
        is("miles(0, 0)", 0);
        is("miles(0, 65535)", 999);
        is("miles(1, 0)", 1);
        is("take(0, 0)", 0);
        is("miles(0, 0)", -1);
        is("miles(0, 65535)", 999);
    }

    private void milesOfNone() {
        is("miles(0, 0)", -1);
        is("miles(1, 65535)", -1);
        villages(0, 5, 7);
        for (int name : new int[] {0, 4, 6, 8, 65535}) {
            is("miles(0, " + name + ")", -1);
        }
        is("miles(1, 5)", -1);
        fresh();
        manyVillages(1, 1, 2, FULL);
        for (int k = 0; k < FULL; k++) {
            is("miles(1, " + 2 * k + ")", -1);
            is("miles(1, " + (2 * k + 1) + ")", k + 1);
        }
        is("miles(1, 48)", -1);
    }

    private void milesNoName() {
        villages(0, 0, 5, 65535);
        refusedFor(ARGUMENT, "miles(0, %d)", NO_NAMES);
        refusedFor(ARGUMENT, "miles(1, %d)", NO_NAMES);
    }

    private void count() {
        sentence("8: without a village: the bits that all names share are 0 too",
            () -> told("count(0, %d)", 0, 0, 0, 0, 0, 0, 0));
        sentence("8: of one village", this::countOne);
        sentence("8: of two villages, unlike in the lowest and in the highest bit", this::countTwo);
        sentence("8: of a full wood", this::countFull);
        sentence("8: the longest path that there can be", this::countLongest);
        sentence("8: the most miles that there can be", this::countMiles);
        sentence("8: IndexOutOfBounds if wood is not 0 or 1",
            () -> refusedFor(INDEX, "count(%d, 0)", NO_WOODS));
        sentence("8: IndexOutOfBounds if what is not 0 to 6", this::countNoWhat);
    }

    private void countOne() {
        is("put(0, 0, 0)", -1);
        told("count(0, %d)", 1, 0, 0, 0, 16, 0, 0);
        is("put(1, 65535, 999)", -1);
        told("count(1, %d)", 1, 0, 0, 0, 16, 0, 999);
        is("put(1, 0, 0)", -1);
        is("take(1, 0)", 0);
        told("count(1, %d)", 1, 0, 0, 0, 16, 0, 999);
    }

    private void countTwo() {
        villages(0, 65534, 65535);
        told("count(0, %d)", 2, 1, 1, 2, 15, 1, 3);
        villages(1, 0, 32768);
        told("count(1, %d)", 2, 1, 1, 2, 0, 32768, 3);
    }

    private void countFull() {
        manyVillages(0, 0, 1, FULL);
        told("count(0, %d)", 24, 23, 5, 16 * 5 + 8 * 4, 11, 31, 300);
        is("turn(0, 65535)", 65512);
        told("count(0, %d)", 24, 23, 5, 16 * 5 + 8 * 4, 11, 31, 300);
        is("take(0, 65512)", 24);
        is("count(0, 0)", 23);
    }

    private void countLongest() {
        longestPaths(0);
        told("count(0, %d)", 17, 16, 16, 152, 0, 65535, 153);
        is("take(0, 1)", 2);
        told("count(0, %d)", 16, 15, 15, 135, 0, 65534, 151);
    }

    private void countMiles() {
        for (int k = 0; k < FULL; k++) {
            is("put(1, " + k + ", 999)", -1);
        }
        is("count(1, 6)", 24 * 999);
        is("put(1, 0, 0)", 999);
        is("count(1, 6)", 23 * 999);
    }

    private void countNoWhat() {
        refusedWhat("count(0, %d)", 6);
        villages(0, 1, 2);
        refusedWhat("count(0, %d)", 6);
        refusedWhat("count(1, %d)", 6);
    }

    private void sign() {
        sentence("9: of a name: -1 for the bit and for both sides", this::signOfName);
        sentence("9: of a post: its bit, 15 and 0 too", this::signOfPost);
        sentence("9: the longest path, all low sides", this::signLow);
        sentence("9: the longest path, all high sides", this::signHigh);
        sentence("9: IndexOutOfBounds if wood is not 0 or 1", this::signNoWood);
        sentence("9: IndexOutOfBounds if there is no such place", this::signNoPlace);
        sentence("9: IndexOutOfBounds if what is not 0 to 6", this::signNoWhat);
    }

    private void signOfName() {
        villages(0, 0);
        told("sign(0, 0, %d)", -1, 1, 0, 0, -1, -1, 0);
        villages(1, 65535);
        told("sign(1, 0, %d)", -1, 1, 65535, 65535, -1, -1, 0);
        villages(1, 0);
        told("sign(1, 1, %d)", -1, 1, 0, 0, -1, -1, 1);
        told("sign(1, 2, %d)", -1, 1, 65535, 65535, -1, -1, 1);
    }

    private void signOfPost() {
        villages(0, 0, 32768);
        told("sign(0, 0, %d)", 15, 2, 0, 32768, 1, 2, 0);
        villages(0, 1, 32769);
        told("sign(0, 0, %d)", 15, 4, 0, 32769, 1, 4, 0);
        told("sign(0, 1, %d)", 0, 2, 0, 1, 2, 3, 1);
        told("sign(0, 4, %d)", 0, 2, 32768, 32769, 5, 6, 1);
        told("sign(0, 6, %d)", -1, 1, 32769, 32769, -1, -1, 2);
    }

    private void signLow() {
        longestPaths(0);
        for (int posts = 0; posts < 16; posts++) {
            told("sign(0, " + posts + ", %d)",
                15 - posts, 17 - posts, 0, 32768 >> posts, posts + 1, 32 - posts, posts);
            told("sign(0, " + (32 - posts) + ", %d)",
                -1, 1, 32768 >> posts, 32768 >> posts, -1, -1, posts + 1);
        }
        told("sign(0, 16, %d)", -1, 1, 0, 0, -1, -1, 16);
    }

    private void signHigh() {
        longestPaths(0);
        is("turn(0, 65535)", 32767);
        for (int posts = 0; posts < 16; posts++) {
            int low = 65535 - (32768 >> posts);
            told("sign(0, " + 2 * posts + ", %d)",
                15 - posts, 17 - posts, low, 65535, 2 * posts + 1, 2 * posts + 2, posts);
            told("sign(0, " + (2 * posts + 1) + ", %d)", -1, 1, low, low, -1, -1, posts + 1);
        }
        told("sign(0, 32, %d)", -1, 1, 65535, 65535, -1, -1, 16);
    }

    private void signNoWood() {
        villages(0, 1, 2);
        villages(1, 1);
        refusedFor(INDEX, "sign(%d, 0, 0)", NO_WOODS);
    }

    private void signNoPlace() {
        refusedFor(INDEX, "sign(0, %d, 0)", 0, 1, -1, MIN, MAX);
        manyVillages(1, 100, 7, FULL);
        refusedFor(INDEX, "sign(0, %d, 0)", 0, 46);
        villages(0, 1);
        refusedFor(INDEX, "sign(0, %d, 0)", 1, 2, -1, 256, 65536, MIN, MAX);
        villages(0, 2);
        is("sign(0, 2, 2)", 2);
        refusedFor(INDEX, "sign(0, %d, 0)", 3, 4, -1, 256, 65536, MIN, MAX);
        is("sign(1, 46, 2)", 261);
        refusedFor(INDEX, "sign(1, %d, 0)", 47, 48, 94, 95, -1, 256, 65536, MIN, MAX);
        is("take(1, 100)", 1);
        is("sign(1, 44, 2)", 261);
        refusedFor(INDEX, "sign(1, %d, 2)", 45, 46);
    }

    private void signNoWhat() {
        refusedWhat("sign(0, 0, %d)", 6);
        villages(0, 1, 2);
        refusedWhat("sign(0, 0, %d)", 6);
        refusedWhat("sign(0, 2, %d)", 6);
    }

    private void walk() {
        sentence("10: in a wood with one village one comes to no post", this::walkOne);
        sentence("10: the longest ways, and the shortest", this::walkLongest);
        sentence("10: the first unlike bit, -1 if both are the same", this::walkUnlike);
        sentence("10: in a full wood by each of its names", this::walkFull);
        sentence("10: IndexOutOfBounds if wood is not 0 or 1, or what is not 0 to 2", this::walkNoIndex);
        sentence("10: IllegalArgument if name is not 0 to 65535", this::walkNoName);
        sentence("10: IllegalState if the wood has no village", this::walkEmpty);
    }

    private void walkOne() {
        villages(0, 0);
        told("walk(0, 0, %d)", 0, 0, -1);
        told("walk(0, 65535, %d)", 0, 0, 15);
        told("walk(0, 1, %d)", 0, 0, 0);
        villages(1, 65535);
        told("walk(1, 65535, %d)", 0, 65535, -1);
        told("walk(1, 0, %d)", 0, 65535, 15);
        told("walk(1, 65534, %d)", 0, 65535, 0);
    }

    private void walkLongest() {
        longestPaths(0);
        told("walk(0, 0, %d)", 16, 0, -1);
        told("walk(0, 1, %d)", 16, 1, -1);
        told("walk(0, 3, %d)", 15, 2, 0);
        told("walk(0, 65535, %d)", 1, 32768, 14);
        told("walk(0, 32768, %d)", 1, 32768, -1);
        is("turn(0, 65535)", 32767);
        told("walk(0, 65535, %d)", 16, 65535, -1);
        told("walk(0, 0, %d)", 1, 32767, 14);
    }

    private void walkUnlike() {
        villages(0, 21845);
        for (int bit = 0; bit < 16; bit++) {
            is("walk(0, " + (21845 ^ (1 << bit)) + ", 2)", bit);
            is("walk(0, " + (21845 ^ ((2 << bit) - 1)) + ", 2)", bit);
        }
        is("walk(0, 21845, 2)", -1);
    }

    private void walkFull() {
        manyVillages(1, 16, 1, FULL);
        for (int k = 0; k < FULL; k++) {
            told("walk(1, " + (16 + k) + ", %d)", k < 16 ? 5 : 4, 16 + k, -1);
        }
        told("walk(1, 0, %d)", 5, 16, 4);
        told("walk(1, 65535, %d)", 4, 39, 15);
    }

    private void walkNoIndex() {
        villages(0, 5);
        villages(1, 5);
        refusedFor(INDEX, "walk(%d, 5, 0)", NO_WOODS);
        refusedWhat("walk(0, 5, %d)", 2);
        is("take(0, 5)", 1);
        refusedWhat("walk(0, 5, %d)", 2);
    }

    private void walkNoName() {
        villages(0, 0, 5, 65535);
        refusedFor(ARGUMENT, "walk(0, %d, 0)", NO_NAMES);
        refusedFor(ARGUMENT, "walk(0, %d, 2)", NO_NAMES);
        refusedFor(ARGUMENT, "walk(1, %d, 1)", NO_NAMES);
    }

    private void walkEmpty() {
        for (int what = 0; what <= 2; what++) {
            refused(STATE, "walk(0, 0, " + what + ")", "walk(1, 65535, " + what + ")");
        }
        villages(0, 5);
        refused(STATE, "walk(1, 5, 1)");
        is("take(0, 5)", 1);
        refused(STATE, "walk(0, 5, 1)");
    }

    private void step() {
        sentence("11: the next one, which is not it", this::stepFromIt);
        sentence("11: from 0 and 65535, which do not wrap around", this::stepFromEnds);
        sentence("11: -1 if there is none", this::stepNone);
        sentence("11: through a full wood, up and down", this::stepFull);
        sentence("11: IndexOutOfBounds if wood is not 0 or 1", this::stepNoWood);
        sentence("11: IllegalArgument if name is not 0 to 65535", this::stepNoName);
    }

    private void stepFromIt() {
        villages(0, 5, 6, 9);
        is("step(0, 5, true)", 6);
        is("step(0, 6, true)", 9);
        is("step(0, 6, false)", 5);
        is("step(0, 9, false)", 6);
        is("step(0, 7, true)", 9);
        is("step(0, 8, false)", 6);
        is("step(0, 4, true)", 5);
        is("step(0, 10, false)", 9);
    }

    private void stepFromEnds() {
        villages(0, 0, 1, 65534, 65535);
        is("step(0, 0, true)", 1);
        is("step(0, 1, false)", 0);
        is("step(0, 65534, true)", 65535);
        is("step(0, 65535, false)", 65534);
        is("step(0, 65535, true)", -1);
        is("step(0, 0, false)", -1);
        villages(1, 1, 65534);
        is("step(1, 0, true)", 1);
        is("step(1, 0, false)", -1);
        is("step(1, 65535, false)", 65534);
        is("step(1, 65535, true)", -1);
    }

    private void stepNone() {
        is("step(0, 100, true)", -1);
        is("step(0, 100, false)", -1);
        villages(0, 5);
        is("step(0, 5, true)", -1);
        is("step(0, 5, false)", -1);
        is("step(0, 6, true)", -1);
        is("step(0, 4, false)", -1);
        is("step(0, 4, true)", 5);
        is("step(0, 6, false)", 5);
        is("step(1, 4, true)", -1);
        is("take(0, 5)", 1);
        is("step(0, 4, true)", -1);
        is("step(0, 6, false)", -1);
    }

    private void stepFull() {
        manyVillages(1, 10, 10, FULL);
        for (int k = 1; k <= FULL; k++) {
            is("step(1, " + 10 * k + ", true)", k == FULL ? -1 : 10 * k + 10);
            is("step(1, " + 10 * k + ", false)", k == 1 ? -1 : 10 * k - 10);
        }
        is("step(1, 0, true)", 10);
        is("step(1, 65535, false)", 240);
    }

    private void stepNoWood() {
        villages(0, 1);
        villages(1, 1);
        refusedFor(INDEX, "step(%d, 0, true)", NO_WOODS);
        refusedFor(INDEX, "step(%d, 2, false)", NO_WOODS);
    }

    private void stepNoName() {
        villages(0, 0, 5, 65535);
        refusedFor(ARGUMENT, "step(0, %d, true)", NO_NAMES);
        refusedFor(ARGUMENT, "step(0, %d, false)", NO_NAMES);
        refusedFor(ARGUMENT, "step(1, %d, true)", NO_NAMES);
    }

    private void at() {
        sentence("12: of which no other, and of which all others are smaller", this::atEnds);
        sentence("12: IndexOutOfBounds if wood is not 0 or 1", this::atNoWood);
        sentence("12: IndexOutOfBounds if there is no such village", this::atNoVillage);
    }

    private void atEnds() {
        villages(0, 65535, 0, 7);
        is("at(0, 0)", 0);
        is("at(0, 1)", 7);
        is("at(0, 2)", 65535);
        manyVillages(1, 100, 100, FULL);
        is("at(1, 0)", 100);
        is("at(1, 23)", 2400);
        is("take(1, 100)", 1);
        is("at(1, 0)", 200);
        is("at(1, 22)", 2400);
    }

    private void atNoWood() {
        villages(0, 1);
        villages(1, 1);
        refusedFor(INDEX, "at(%d, 0)", NO_WOODS);
    }

    private void atNoVillage() {
        refusedFor(INDEX, "at(0, %d)", 0, 1, -1, MIN, MAX);
        manyVillages(1, 0, 1, FULL);
        refusedFor(INDEX, "at(0, %d)", 0, 23);
        refusedFor(INDEX, "at(1, %d)", 24, 25, 47, 48, -1, 256, 65536, MIN, MAX);
        villages(0, 9);
        is("at(0, 0)", 9);
        refusedFor(INDEX, "at(0, %d)", 1, -1, 256, 65536, MIN, MAX);
        is("take(0, 9)", 1);
        refused(INDEX, "at(0, 0)");
        is("take(1, 0)", 1);
        refused(INDEX, "at(1, 23)");
    }

    private void range() {
        sentence("13: the smallest and the greatest name of a range are in it", this::rangeEnds);
        sentence("13: the whole range, and a range of one name", this::rangeWholeAndOne);
        sentence("13: without one: 0, 0, 0 and -1", this::rangeNone);
        sentence("13: the most miles of one, 0 and 999 too", this::rangeMostMiles);
        sentence("13: IndexOutOfBounds if wood is not 0 or 1, or what is not 0 to 3", this::rangeNoIndex);
        sentence("13: IllegalArgument if low or high is not 0 to 65535", this::rangeNoName);
        sentence("13: IllegalArgument if low is greater than high", this::rangeTurned);
    }

    private void rangeEnds() {
        villages(0, 8, 9, 12, 14);
        told("range(0, 8, 14, %d)", 4, 10, 13, 4);
        told("range(0, 9, 14, %d)", 3, 9, 13, 4);
        told("range(0, 9, 13, %d)", 2, 5, 13, 3);
        told("range(0, 9, 12, %d)", 2, 5, 13, 3);
        told("range(0, 9, 11, %d)", 1, 2, 16, 2);
        told("range(0, 7, 9, %d)", 2, 3, 15, 2);
        told("range(0, 12, 15, %d)", 2, 7, 14, 4);
    }

    private void rangeWholeAndOne() {
        villages(0, 0, 65535);
        told("range(0, 0, 65535, %d)", 2, 3, 0, 2);
        told("range(0, 0, 0, %d)", 1, 1, 16, 1);
        told("range(0, 65535, 65535, %d)", 1, 2, 16, 2);
        told("range(0, 0, 65534, %d)", 1, 1, 16, 1);
        told("range(0, 1, 65535, %d)", 1, 2, 16, 2);
        manyVillages(1, 0, 1, FULL);
        told("range(1, 0, 65535, %d)", 24, 300, 11, 24);
        told("range(1, 0, 23, %d)", 24, 300, 11, 24);
        told("range(1, 1, 22, %d)", 22, 275, 11, 23);
        told("range(1, 23, 65535, %d)", 1, 24, 16, 24);
    }

    private void rangeNone() {
        told("range(0, 0, 65535, %d)", 0, 0, 0, -1);
        told("range(1, 5, 5, %d)", 0, 0, 0, -1);
        villages(0, 5, 9);
        told("range(0, 0, 4, %d)", 0, 0, 0, -1);
        told("range(0, 6, 8, %d)", 0, 0, 0, -1);
        told("range(0, 7, 7, %d)", 0, 0, 0, -1);
        told("range(0, 10, 65535, %d)", 0, 0, 0, -1);
        told("range(1, 5, 9, %d)", 0, 0, 0, -1);
    }

    private void rangeMostMiles() {
        is("put(0, 1, 0)", -1);
        told("range(0, 0, 65535, %d)", 1, 0, 16, 0);
        is("put(0, 2, 999)", -1);
        is("put(0, 3, 999)", -1);
        is("put(0, 4, 998)", -1);
        told("range(0, 0, 65535, %d)", 4, 2996, 13, 999);
        told("range(0, 3, 4, %d)", 2, 1997, 13, 999);
        told("range(0, 1, 1, %d)", 1, 0, 16, 0);
        for (int k = 0; k < FULL; k++) {
            is("put(1, " + k + ", 999)", -1);
        }
        is("range(1, 0, 65535, 1)", 24 * 999);
    }

    private void rangeNoIndex() {
        villages(0, 1);
        villages(1, 1);
        refusedFor(INDEX, "range(%d, 0, 65535, 0)", NO_WOODS);
        refusedWhat("range(0, 0, 65535, %d)", 3);
        refusedWhat("range(0, 5, 5, %d)", 3);
    }

    private void rangeNoName() {
        villages(0, 0, 5, 65535);
        refusedFor(ARGUMENT, "range(0, %d, 65535, 0)", NO_NAMES);
        refusedFor(ARGUMENT, "range(0, 0, %d, 0)", NO_NAMES);
        refusedFor(ARGUMENT, "range(0, %1$d, %1$d, 0)", NO_NAMES);
        refused(ARGUMENT, "range(0, -2, -1, 0)", "range(0, 65536, 65537, 0)", "range(0, -1, 65536, 0)");
    }

    private void rangeTurned() {
        villages(0, 0, 5, 65535);
        for (int what = 0; what <= 3; what++) {
            refused(ARGUMENT, "range(0, 1, 0, " + what + ")", "range(0, 65535, 65534, " + what + ")",
                "range(0, 65535, 0, " + what + ")", "range(1, 6, 5, " + what + ")");
        }
        is("range(0, 5, 5, 0)", 1);
    }

    private void near() {
        sentence("14: the smallest number of unlike bits, not the smallest difference", this::nearByBits);
        sentence("14: itself, if it is there", this::nearItself);
        sentence("14: of one village, by each name", this::nearOne);
        sentence("14: -1 without one", this::nearNone);
        sentence("14: IndexOutOfBounds if wood is not 0 or 1", this::nearNoWood);
        sentence("14: IllegalArgument if name is not 0 to 65535", this::nearNoName);
    }

    private void nearByBits() {
        villages(0, 1020, 1024);
        is("near(0, 1023)", 1020);
        is("near(0, 1025)", 1024);
        is("near(0, 65535)", 1024);
        is("near(0, 0)", 1020);
        villages(1, 0, 65535);
        is("near(1, 32767)", 0);
        is("near(1, 32768)", 65535);
        is("put(1, 32768, 0)", -1);
        is("near(1, 49151)", 32768);
        is("near(1, 49152)", 65535);
        fresh();
        villages(0, 40, 60);
        is("near(0, 38)", 40);
        is("walk(0, 38, 1)", 40);
        is("near(0, 18)", 60);
        is("walk(0, 18, 1)", 60);
        villages(1, 40, 56, 60);
        is("near(1, 39)", 40);
        is("near(1, 50)", 56);
        is("near(1, 53)", 60);
    }

    private void nearItself() {
        manyVillages(0, 65512, 1, FULL);
        for (int name = 65512; name <= 65535; name++) {
            is("near(0, " + name + ")", name);
        }
        villages(1, 0, 1);
        is("near(1, 0)", 0);
        is("near(1, 1)", 1);
        is("near(1, 2)", 0);
        is("near(1, 3)", 1);
    }

    private void nearOne() {
        villages(0, 0);
        villages(1, 65535);
        for (int name : new int[] {0, 1, 32767, 32768, 65535}) {
            is("near(0, " + name + ")", 0);
            is("near(1, " + name + ")", 65535);
        }
    }

    private void nearNone() {
        is("near(0, 0)", -1);
        is("near(1, 65535)", -1);
        villages(0, 5);
        is("near(1, 5)", -1);
        is("take(0, 5)", 1);
        is("near(0, 5)", -1);
    }

    private void nearNoWood() {
        villages(0, 1);
        villages(1, 1);
        refusedFor(INDEX, "near(%d, 1)", NO_WOODS);
    }

    private void nearNoName() {
        villages(0, 0, 5, 65535);
        refusedFor(ARGUMENT, "near(0, %d)", NO_NAMES);
        refusedFor(ARGUMENT, "near(1, %d)", NO_NAMES);
    }

    private void far() {
        sentence("15: -1 if it has fewer than two villages", this::farFew);
        sentence("15: of two villages, from 1 to 65535", this::farTwo);
        sentence("15: the greatest number of any two", this::farAny);
        sentence("15: of a full wood", this::farFull);
        sentence("15: IndexOutOfBounds if wood is not 0 or 1", this::farNoWood);
    }

    private void farFew() {
        is("far(0)", -1);
        villages(0, 0);
        is("far(0)", -1);
        villages(1, 65535);
        is("far(1)", -1);
        villages(0, 1);
        is("far(0)", 1);
        is("take(0, 0)", 1);
        is("far(0)", -1);
        is("take(0, 1)", 1);
        is("far(0)", -1);
    }

    private void farTwo() {
        villages(0, 65535, 65534);
        is("far(0)", 1);
        villages(1, 0, 65535);
        is("far(1)", 65535);
        fresh();
        villages(0, 32767, 32768);
        is("far(0)", 65535);
        villages(1, 0, 32768);
        is("far(1)", 32768);
    }

    private void farAny() {
        villages(0, 0, 32767, 32768);
        is("far(0)", 65535);
        villages(1, 1, 2, 3);
        is("far(1)", 3);
        villages(1, 4, 5, 6);
        is("far(1)", 7);
        fresh();
        villages(0, 5, 10, 32768);
        is("far(0)", 32778);
        is("take(0, 32768)", 3);
        is("far(0)", 15);
    }

    private void farFull() {
        manyVillages(0, 0, 1, FULL);
        is("far(0)", 31);
        manyVillages(1, 0, 2, FULL - 1);
        is("far(1)", 62);
        is("put(1, 65535, 0)", -1);
        is("far(1)", 65535);
        fresh();
        longestPaths(0);
        is("far(0)", 49152);
    }

    private void farNoWood() {
        villages(0, 1, 2);
        villages(1, 1, 2);
        refusedFor(INDEX, "far(%d)", NO_WOODS);
    }

    private void unlike() {
        sentence("16: the first unlike bit, from 15 to 0", this::unlikeBits);
        sentence("16: -1 if they are the same", this::unlikeSame);
        sentence("16: IllegalArgument if a or b is not 0 to 65535", this::unlikeNoName);
    }

    private void unlikeBits() {
        for (int bit = 0; bit < 16; bit++) {
            int one = 1 << bit;
            is("unlike(0, " + one + ")", bit);
            is("unlike(" + one + ", 0)", bit);
            is("unlike(65535, " + (65535 - one) + ")", bit);
            is("unlike(" + (one - 1) + ", " + one + ")", bit);
            is("unlike(0, " + (2 * one - 1) + ")", bit);
        }
    }

    private void unlikeSame() {
        for (int name : new int[] {0, 1, 21845, 32767, 32768, 65534, 65535}) {
            is("unlike(" + name + ", " + name + ")", -1);
        }
    }

    private void unlikeNoName() {
        refusedFor(ARGUMENT, "unlike(%d, 0)", NO_NAMES);
        refusedFor(ARGUMENT, "unlike(0, %d)", NO_NAMES);
        refusedFor(ARGUMENT, "unlike(%1$d, %1$d)", NO_NAMES);
        refused(ARGUMENT, "unlike(-1, 65536)", "unlike(65536, -1)");
    }

    public static void main(String[] args) {
        ThereIsEdgesTest test = new ThereIsEdgesTest();
        test.miles();
        test.count();
        test.sign();
        test.walk();
        test.step();
        test.at();
        test.range();
        test.near();
        test.far();
        test.unlike();
        test.checks.end("ThereIsEdgesTest");
    }
}
