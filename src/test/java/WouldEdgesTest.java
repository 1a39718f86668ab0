import java.math.BigInteger;
import java.util.ArrayList;
import java.util.List;

/** The edges that the promises 17 to 20 name; each test bears the sentence that it is about. */
public final class WouldEdgesTest extends Sentences {
    private void would() {
        sentence("17: of two woods without villages", () -> told("would(%d)", 0, 0, 0, 0));
        sentence("17: of one village, in one wood or in both", this::wouldOne);
        sentence("17: one wood without villages", this::wouldOneWood);
        sentence("17: all villages of both, however many: 25 and 48", this::wouldMany);
        sentence("17: all 48 with the longest path that there can be", this::wouldLongest);
        sentence("17: 24 villages that are in both", this::wouldSame);
        sentence("17: nothing is changed", this::wouldChangesNothing);
        sentence("17: IndexOutOfBounds if what is not 0 to 3", this::wouldNoWhat);
    }

    private void wouldOne() {
        villages(0, 0);
        told("would(%d)", 1, 0, 0, 0);
        villages(1, 0);
        told("would(%d)", 1, 0, 0, 0);
        is("take(0, 0)", 1);
        told("would(%d)", 1, 0, 0, 0);
        villages(0, 65535);
        told("would(%d)", 2, 1, 1, 2);
    }

    private void wouldOneWood() {
        manyVillages(1, 0, 1, FULL);
        told("would(%d)", 24, 23, 5, 112);
        is("merge(1, 0)", 0);
        told("would(%d)", 24, 23, 5, 112);
    }

    private void wouldMany() {
        manyVillages(0, 0, 1, FULL);
        villages(1, 24);
        // The path of 24 is two posts, and those of 16 to 23 are one longer than without it.
        told("would(%d)", 25, 24, 5, 16 * 5 + 8 * 5 + 2);
        refused(STATE, "merge(0, 0)", "merge(1, 0)");
        fresh();
        manyVillages(0, 0, 1, FULL);
        manyVillages(1, 32768, 1, FULL);
        told("would(%d)", 48, 47, 6, 2 * (112 + 24));
        refused(STATE, "merge(0, 0)", "merge(1, 0)");
        is("take(1, 32768)", 1);
        is("would(0)", 47);
    }

    private void wouldLongest() {
        longestPaths(0);
        for (int k = 0; k < 7; k++) {
            is("put(0, " + (3 << k) + ", 0)", -1);
        }
        for (int k = 7; k < 15; k++) {
            is("put(1, " + (3 << k) + ", 0)", -1);
        }
        for (int k = 0; k < 14; k++) {
            is("put(1, " + (5 << k) + ", 0)", -1);
        }
        is("put(1, 7, 0)", -1);
        is("put(1, 65535, 0)", -1);
        is("count(0, 0)", FULL);
        is("count(1, 0)", FULL);
        is("would(0)", 48);
        is("would(1)", 47);
        is("would(2)", 16);
        is("would(3)", addedPaths());
    }

    /** The posts ahead of a name: one for each bit of it by which some other name first parts. */
    private int addedPaths() {
        List<Integer> names = new ArrayList<>();
        for (int wood = 0; wood < 2; wood++) {
            for (int k = 0; k < FULL; k++) {
                names.add(x.number("at(" + wood + ", " + k + ")"));
            }
        }
        int sum = 0;
        for (int name : names) {
            int bits = 0;
            for (int other : names) {
                bits |= Integer.highestOneBit(name ^ other);
            }
            sum += Integer.bitCount(bits);
        }
        return sum;
    }

    private void wouldSame() {
        manyVillages(0, 0, 1, FULL);
        manyVillages(1, 0, 1, FULL);
        told("would(%d)", 24, 23, 5, 112);
        is("take(0, 0)", 1);
        is("take(1, 23)", 24);
        told("would(%d)", 24, 23, 5, 112);
    }

    private void wouldChangesNothing() {
        manyVillages(0, 0, 1, FULL);
        manyVillages(1, 12, 1, FULL);
        String before = x.woods();
        String digest = x.answer("digest()");
        for (int what = 0; what <= 3; what++) {
            x.answer("would(" + what + ")");
            is("digest()", digest);
        }
        woodsAre(before);
    }

    private void wouldNoWhat() {
        refusedWhat("would(%d)", 3);
        villages(0, 1, 2);
        villages(1, 1);
        refusedWhat("would(%d)", 3);
    }

    private void advise() {
        sentence("18: -1 without one", this::adviseNone);
        sentence("18: of one village and of two", this::adviseFew);
        sentence("18: of several the smallest name", this::adviseSmallest);
        sentence("18: all paths of the others, added, are the least", this::adviseLeast);
        sentence("18: of a full wood", this::adviseFull);
        sentence("18: nothing is changed", this::adviseChangesNothing);
        sentence("18: IndexOutOfBounds if wood is not 0 or 1", this::adviseNoWood);
    }

    private void adviseNone() {
        is("advise(0)", -1);
        villages(0, 5);
        is("advise(1)", -1);
        is("take(0, 5)", 1);
        is("advise(0)", -1);
    }

    private void adviseFew() {
        villages(0, 65535);
        is("advise(0)", 65535);
        villages(1, 0);
        is("advise(1)", 0);
        villages(0, 65534);
        is("advise(0)", 65534);
        villages(1, 65535);
        is("advise(1)", 0);
        is("take(1, 0)", 1);
        is("advise(1)", 65535);
    }

    private void adviseSmallest() {
        villages(0, 3, 2, 1, 0);
        is("advise(0)", 0);
        is("turn(0, 65535)", 65532);
        is("advise(0)", 65532);
        longestPaths(1);
        is("advise(1)", 0);
        is("turn(1, 65535)", 32767);
        is("advise(1)", 32767);
    }

    private void adviseLeast() {
        villages(0, 0, 1, 2, 3, 40000);
        is("advise(0)", 40000);
        leastByTaking();
        fresh();
        villages(0, 0, 1, 2, 3, 40000, 40001, 40002, 40003, 40004, 40005, 40006, 40007);
        is("advise(0)", 40000);
        leastByTaking();
        fresh();
        villages(0, 5, 6, 40000, 40001, 50000, 65535);
        is("advise(0)", 40000);
        leastByTaking();
    }

    /** Takes each village down in its turn and puts it up again. */
    private void leastByTaking() {
        int all = x.number("count(0, 0)");
        int least = MAX;
        int best = -1;
        for (int k = 0; k < all; k++) {
            int name = x.number("at(0, " + k + ")");
            int miles = x.number("take(0, " + name + ")");
            int paths = x.number("count(0, 3)");
            if (paths < least) {
                least = paths;
                best = name;
            }
            is("put(0, " + name + ", " + miles + ")", -1);
        }
        is("advise(0)", best);
    }

    private void adviseFull() {
        manyVillages(0, 0, 1, FULL);
        // The paths of 0 to 15 are five posts, those of 16 to 23 are four.
        is("advise(0)", 0);
        leastByTaking();
        fresh();
        manyVillages(0, 0, 1, FULL - 1);
        is("put(0, 65535, 0)", -1);
        is("advise(0)", 65535);
        leastByTaking();
    }

    private void adviseChangesNothing() {
        manyVillages(0, 3, 3, FULL);
        villages(1, 65535);
        String before = x.woods();
        String digest = x.answer("digest()");
        for (int wood = 0; wood < 2; wood++) {
            x.answer("advise(" + wood + ")");
            is("digest()", digest);
        }
        woodsAre(before);
    }

    private void adviseNoWood() {
        villages(0, 1);
        villages(1, 1);
        refusedFor(INDEX, "advise(%d)", NO_WOODS);
    }

    private void mean() {
        sentence("19: 0 without any", this::meanNone);
        sentence("19: of one village and of two", this::meanFew);
        sentence("19: not a whole number", this::meanPart);
        sentence("19: of a full wood, and of the longest path", this::meanMany);
        sentence("19: IndexOutOfBounds if wood is not 0 or 1", this::meanNoWood);
    }

    private void meanNone() {
        is("mean(0)", 0.0);
        villages(0, 1, 2);
        is("mean(1)", 0.0);
        is("take(0, 1)", 1);
        is("take(0, 2)", 2);
        is("mean(0)", 0.0);
    }

    private void meanFew() {
        villages(0, 65535);
        is("mean(0)", 0.0);
        villages(0, 0);
        is("mean(0)", 1.0);
    }

    private void meanPart() {
        villages(0, 0, 1, 2);
        is("mean(0)", 5.0 / 3);
        villages(0, 4);
        is("mean(0)", 9.0 / 4);
        villages(0, 8);
        is("mean(0)", 14.0 / 5);
    }

    private void meanMany() {
        manyVillages(0, 0, 1, FULL);
        is("mean(0)", 112.0 / 24);
        longestPaths(1);
        is("mean(1)", 152.0 / 17);
    }

    private void meanNoWood() {
        villages(0, 1, 2);
        villages(1, 1, 2);
        refusedFor(INDEX, "mean(%d)", NO_WOODS);
    }

    private void digest() {
        sentence("20: of two woods without villages", this::digestEmpty);
        sentence("20: of one village in each wood", this::digestOne);
        sentence("20: of two full woods", this::digestFull);
        sentence("20: of the longest path, with most miles", this::digestLongest);
        sentence("20: wraps around as a 64-bit integer", this::digestWraps);
        sentence("20: what is in one wood is not what is in the other", this::digestOfWoods);
    }

    /** The numbers of promise 20, asked by calls; each wood of an object of its own, for 512 calls. */
    private List<Long> numbersOf(String... puts) {
        List<Long> numbers = new ArrayList<>();
        for (int wood = 0; wood < 2; wood++) {
            putAll(puts);
            String w = "(" + wood;
            addTold(numbers, "count" + w + ", %d)", 6);
            addTold(numbers, "far" + w + ")", 0);
            int names = x.number("count" + w + ", 0)");
            for (int place = 0; place < 2 * names - 1; place++) {
                addTold(numbers, "sign" + w + ", " + place + ", %d)", 6);
            }
            for (int k = 0; k < names; k++) {
                String name = x.answer("at" + w + ", " + k + ")");
                addTold(numbers, "miles" + w + ", " + name + ")", 0);
            }
        }
        addTold(numbers, "would(%d)", 3);
        return numbers;
    }

    private void putAll(String... puts) {
        fresh();
        for (String put : puts) {
            is(put, -1);
        }
    }

    private void addTold(List<Long> numbers, String call, int last) {
        for (int what = 0; what <= last; what++) {
            numbers.add(Long.parseLong(x.answer(String.format(call, what))));
        }
    }

    private static BigInteger withoutWrap(List<Long> numbers) {
        BigInteger d = BigInteger.valueOf(1747);
        for (long number : numbers) {
            d = d.multiply(BigInteger.valueOf(31)).add(BigInteger.valueOf(number));
        }
        return d;
    }

    private void digestIs(int howMany, String... puts) {
        List<Long> numbers = numbersOf(puts);
        isText("how many numbers", howMany, numbers.size());
        putAll(puts);
        is("digest()", withoutWrap(numbers).longValue());
        is("digest()", withoutWrap(numbers).longValue());
    }

    private void digestEmpty() {
        digestIs(20);
        is("digest()", withoutWrap(List.of(0L, 0L, 0L, 0L, 0L, 0L, 0L, -1L,
            0L, 0L, 0L, 0L, 0L, 0L, 0L, -1L, 0L, 0L, 0L, 0L)).longValue());
    }

    private void digestOne() {
        digestIs(36, "put(0, 0, 0)", "put(1, 65535, 999)");
        is("digest()", withoutWrap(List.of(1L, 0L, 0L, 0L, 16L, 0L, 0L, -1L,
            -1L, 1L, 0L, 0L, -1L, -1L, 0L, 0L,
            1L, 0L, 0L, 0L, 16L, 0L, 999L, -1L,
            -1L, 1L, 65535L, 65535L, -1L, -1L, 0L, 999L,
            2L, 1L, 1L, 2L)).longValue());
    }

    private void digestFull() {
        String[] puts = new String[2 * FULL];
        for (int k = 0; k < FULL; k++) {
            puts[k] = "put(0, " + k + ", " + k + ")";
            puts[FULL + k] = "put(1, " + (65535 - 40 * k) + ", " + (999 - k) + ")";
        }
        digestIs(2 * (8 + 47 * 7 + 24) + 4, puts);
    }

    private void digestLongest() {
        String[] puts = new String[17];
        puts[16] = "put(1, 0, 999)";
        for (int bit = 0; bit < 16; bit++) {
            puts[bit] = "put(1, " + (1 << bit) + ", 999)";
        }
        digestIs(8 + 8 + 33 * 7 + 17 + 4, puts);
    }

    private void digestWraps() {
        BigInteger empty = withoutWrap(numbersOf());
        isText("more than 64 bits", true, empty.bitLength() > 64);
        putAll();
        is("digest()", empty.longValue());
        boolean below = false;
        boolean above = false;
        for (int name = 0; name < 20; name++) {
            String put = "put(0, " + name + ", 1)";
            long due = withoutWrap(numbersOf(put)).longValue();
            below |= due < 0;
            above |= due > 0;
            putAll(put);
            is("digest()", due);
        }
        isText("some of them below 0", true, below);
        isText("some of them above 0", true, above);
    }

    private void digestOfWoods() {
        putAll("put(0, 5, 1)");
        String zero = x.answer("digest()");
        putAll("put(1, 5, 1)");
        String one = x.answer("digest()");
        isText("the same digest", false, zero.equals(one));
        is("merge(1, 0)", 0);
        is("digest()", zero);
        is("cut(0, 0)", 1);
        is("digest()", one);
        is("put(1, 5, 2)", 1);
        isText("the same with other miles", false, one.equals(x.answer("digest()")));
        is("put(1, 5, 1)", 2);
        is("digest()", one);
    }

    public static void main(String[] args) {
        WouldEdgesTest test = new WouldEdgesTest();
        test.would();
        test.advise();
        test.mean();
        test.digest();
        test.checks.end("WouldEdgesTest");
    }
}
