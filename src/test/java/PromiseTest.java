/** Each promise of the document by itself: ordinary calls, its edges and wrong ones. */
public final class PromiseTest {
    private static final int MIN = Integer.MIN_VALUE;
    private static final int MAX = Integer.MAX_VALUE;

    /** The digest of two woods without villages, reckoned by hand from promise 20. */
    private static final long EMPTY_DIGEST = digestOf(
        0, 0, 0, 0, 0, 0, 0, -1,
        0, 0, 0, 0, 0, 0, 0, -1,
        0, 0, 0, 0);

    private final Checks checks = new Checks();
    private FingerPosts x = new FingerPosts();

    private static long digestOf(long... numbers) {
        long d = 1747;
        for (long number : numbers) {
            d = d * 31 + number;
        }
        return d;
    }

    private void fresh() {
        x = new FingerPosts();
    }

    /** Puts villages up in a wood; the miles are 1, 2, 3 and so on. */
    private void village(int wood, int... names) {
        for (int k = 0; k < names.length; k++) {
            x.put(wood, names[k], k + 1);
        }
    }

    /** Villages 100, 200 and so on. */
    private void hundreds(int wood, int many) {
        for (int k = 1; k <= many; k++) {
            x.put(wood, 100 * k, k);
        }
    }

    private void names(String what, int wood, int... due) {
        checks.same(what + ": count(" + wood + ", 0)", due.length, () -> x.count(wood, 0));
        for (int k = 0; k < due.length; k++) {
            int place = k;
            checks.same(what + ": at(" + wood + ", " + k + ")", due[k], () -> x.at(wood, place));
        }
    }

    private void woodIsLooked(String call, java.util.function.IntFunction<Object> of) {
        for (int wood : new int[] {-1, 2, MIN, MAX}) {
            checks.index(call + " of wood " + wood, () -> of.apply(wood));
        }
    }

    private void nameIsLooked(String call, java.util.function.IntFunction<Object> of) {
        for (int name : new int[] {-1, 65536, MIN, MAX}) {
            checks.argument(call + " by name " + name, () -> of.apply(name));
        }
    }

    private void whatIsLooked(String call, int last, java.util.function.IntFunction<Object> of) {
        for (int what : new int[] {-1, last + 1, MIN, MAX}) {
            checks.index(call + " of " + what, () -> of.apply(what));
        }
    }

    private void unchanged(String what, Checks.Call call) {
        long before = x.digest();
        Checks.answerOf(call);
        checks.same(what + " changes nothing", before, () -> x.digest());
    }

    private void promise01NewObject() {
        fresh();
        for (int w = 0; w < 2; w++) {
            int wood = w;
            for (int k = 0; k <= 6; k++) {
                int what = k;
                checks.same("1: count(" + w + ", " + k + ")", 0, () -> x.count(wood, what));
            }
        }
        checks.same("1: digest()", EMPTY_DIGEST, () -> x.digest());
        x.put(0, 1, 1);
        checks.same("1: another object has its own woods", 0, () -> new FingerPosts().count(0, 0));
    }

    private void promise02Put() {
        fresh();
        checks.same("2: a new village", -1, () -> x.put(0, 0, 0));
        checks.same("2: the miles before, 0", 0, () -> x.put(0, 0, 999));
        checks.same("2: the miles before, 999", 999, () -> x.put(0, 0, 5));
        checks.same("2: the greatest name", -1, () -> x.put(0, 65535, 999));
        checks.same("2: the other wood", -1, () -> x.put(1, 65535, 7));
        checks.same("2: between both", -1, () -> x.put(0, 300, 8));
        names("2: in order", 0, 0, 300, 65535);
        checks.same("2: miles stay with their name", 999, () -> x.miles(0, 65535));
        checks.same("2: miles that were set", 5, () -> x.miles(0, 0));
        woodIsLooked("2: put", wood -> x.put(wood, -1, -1));
        nameIsLooked("2: put", name -> x.put(0, name, 0));
        for (int miles : new int[] {-1, 1000, MIN, MAX}) {
            checks.argument("2: put with miles " + miles, () -> x.put(0, 9, miles));
        }
        promise02FullWood();
    }

    private void promise02FullWood() {
        fresh();
        hundreds(1, 23);
        checks.same("2: the 24th", -1, () -> x.put(1, 2400, 24));
        checks.state("2: the 25th", () -> x.put(1, 2500, 25));
        checks.state("2: the 25th ahead of all", () -> x.put(1, 0, 25));
        checks.argument("2: wrong miles are named first", () -> x.put(1, 2500, 1000));
        checks.argument("2: a wrong name is named first", () -> x.put(1, 65536, 0));
        unchanged("2: the 25th", () -> x.put(1, 50, 25));
        checks.same("2: miles in a full wood", 24, () -> x.put(1, 2400, 1));
        checks.same("2: the other wood is not full", -1, () -> x.put(0, 2500, 25));
        checks.same("2: the full wood", 24, () -> x.count(1, 0));
    }

    private void promise03Take() {
        fresh();
        village(0, 5, 40000, 9, 65535, 0);
        checks.same("3: in the middle", 3, () -> x.take(0, 9));
        checks.state("3: once more", () -> x.take(0, 9));
        names("3: the others stay", 0, 0, 5, 40000, 65535);
        checks.same("3: the greatest", 4, () -> x.take(0, 65535));
        checks.same("3: the smallest", 5, () -> x.take(0, 0));
        names("3: two are left", 0, 5, 40000);
        checks.same("3: their miles stay", 2, () -> x.miles(0, 40000));
        checks.state("3: it is in the other wood", () -> x.take(1, 5));
        checks.state("3: a name between", () -> x.take(0, 6));
        unchanged("3: no such village", () -> x.take(0, 6));
        woodIsLooked("3: take", wood -> x.take(wood, 65536));
        nameIsLooked("3: take", name -> x.take(0, name));
        x.take(0, 5);
        x.take(0, 40000);
        checks.state("3: an empty wood", () -> x.take(0, 0));
        checks.same("3: nothing is left", EMPTY_DIGEST, () -> x.digest());
        hundreds(0, 24);
        checks.same("3: of a full wood", 24, () -> x.take(0, 2400));
        checks.same("3: then there is room", -1, () -> x.put(0, 2500, 0));
    }

    private void promise04Merge() {
        int[] due = {600, 500, 999, 500};
        int[] small = {3, 4, 7, 3};
        for (int r = 0; r <= 3; r++) {
            int rule = r;
            for (int f = 0; f < 2; f++) {
                int from = f;
                fresh();
                x.put(f, 7, 600);
                x.put(1 - f, 7, 500);
                x.put(f, 8, 3);
                x.put(1 - f, 8, 4);
                x.put(f, 6, 11);
                x.put(1 - f, 9, 12);
                String merge = "4: merge(" + f + ", " + r + ")";
                checks.same(merge, 2, () -> x.merge(from, rule));
                names(merge + " here", f);
                names(merge + " there", 1 - f, 6, 7, 8, 9);
                checks.same(merge + " of 600 and 500", due[r], () -> x.miles(1 - from, 7));
                checks.same(merge + " of 3 and 4", small[r], () -> x.miles(1 - from, 8));
                checks.same(merge + " from here alone", 11, () -> x.miles(1 - from, 6));
                checks.same(merge + " from there alone", 12, () -> x.miles(1 - from, 9));
            }
        }
        promise04Edges();
    }

    private void promise04Edges() {
        fresh();
        checks.same("4: two empty ones", 0, () -> x.merge(0, 0));
        x.put(0, 1, 999);
        x.put(1, 1, 0);
        checks.same("4: 999 and 0 added", 1, () -> x.merge(0, 2));
        checks.same("4: are 999", 999, () -> x.miles(1, 1));
        checks.same("4: from an empty one", 0, () -> x.merge(0, 0));
        checks.same("4: into an empty one", 0, () -> x.merge(1, 3));
        names("4: the village came back", 0, 1);
        woodIsLooked("4: merge", from -> x.merge(from, 0));
        whatIsLooked("4: merge", 3, rule -> x.merge(0, rule));
        fresh();
        hundreds(0, 24);
        village(1, 100, 200, 300);
        checks.index("4: a wrong rule is named first", () -> x.merge(1, 4));
        checks.same("4: 24 with three in both", 3, () -> x.merge(1, 1));
        village(1, 100, 200, 250);
        checks.state("4: 25 of both", () -> x.merge(1, 0));
        checks.state("4: 25 of both, the other way", () -> x.merge(0, 0));
        unchanged("4: 25 of both", () -> x.merge(1, 0));
        x.take(1, 250);
        checks.same("4: 24 of both, the other way", 2, () -> x.merge(0, 0));
        checks.same("4: all 24 are there", 24, () -> x.count(1, 0));
    }

    private void promise05Cut() {
        fresh();
        checks.same("5: an empty wood", 0, () -> x.cut(0, 0));
        village(1, 10, 20, 30, 40);
        checks.same("5: above all", 0, () -> x.cut(1, 41));
        checks.same("5: at a name", 3, () -> x.cut(1, 20));
        names("5: kept", 1, 10);
        names("5: cut off", 0, 20, 30, 40);
        checks.same("5: with its miles", 3, () -> x.miles(0, 30));
        checks.state("5: the other wood has a village", () -> x.cut(0, 65535));
        checks.state("5: even if it would not move", () -> x.cut(1, 65535));
        unchanged("5: the other wood has a village", () -> x.cut(0, 0));
        woodIsLooked("5: cut", wood -> x.cut(wood, 65536));
        nameIsLooked("5: cut", name -> x.cut(0, name));
        x.take(1, 10);
        checks.same("5: between two names", 2, () -> x.cut(0, 21));
        x.merge(0, 0);
        checks.same("5: all", 3, () -> x.cut(1, 0));
        names("5: all came over", 0, 20, 30, 40);
        names("5: none is left", 1);
        x.put(0, 65535, 9);
        checks.same("5: the greatest name", 1, () -> x.cut(0, 65535));
        checks.state("5: an empty wood, but the other is not", () -> emptyThenCut());
    }

    private Object emptyThenCut() {
        FingerPosts y = new FingerPosts();
        y.put(1, 3, 3);
        return y.cut(0, 3);
    }

    private void promise06Turn() {
        fresh();
        village(0, 1, 2, 3, 4);
        village(1, 1);
        checks.same("6: by no bit", 1, () -> x.turn(0, 0));
        names("6: by no bit", 0, 1, 2, 3, 4);
        checks.same("6: by three bits", 3, () -> x.turn(0, 7));
        names("6: by three bits", 0, 3, 4, 5, 6);
        checks.same("6: 4 was 3", 3, () -> x.miles(0, 4));
        checks.same("6: 3 was 4", 4, () -> x.miles(0, 3));
        checks.same("6: 6 was 1", 1, () -> x.miles(0, 6));
        names("6: the other wood stays", 1, 1);
        checks.same("6: by all bits", 65535 - 6, () -> x.turn(0, 65535));
        names("6: by all bits", 0, 65529, 65530, 65531, 65532);
        checks.same("6: one village", 0, () -> x.turn(1, 1));
        woodIsLooked("6: turn", wood -> x.turn(wood, -1));
        nameIsLooked("6: turn", bits -> x.turn(0, bits));
        x.take(1, 0);
        checks.state("6: no village", () -> x.turn(1, 1));
        nameIsLooked("6: turn without a village", bits -> x.turn(1, bits));
        hundreds(1, 24);
        checks.same("6: a full wood", 65535 - 2400, () -> x.turn(1, 65535));
        checks.same("6: its greatest name", 65435, () -> x.at(1, 23));
        checks.same("6: the miles of this", 1, () -> x.miles(1, 65435));
    }

    private void promise07Miles() {
        fresh();
        x.put(0, 8, 0);
        x.put(0, 9, 999);
        x.put(1, 9, 4);
        checks.same("7: no miles", 0, () -> x.miles(0, 8));
        checks.same("7: most miles", 999, () -> x.miles(0, 9));
        checks.same("7: of the other wood", 4, () -> x.miles(1, 9));
        checks.same("7: no such village", -1, () -> x.miles(1, 8));
        checks.same("7: smaller than all", -1, () -> x.miles(0, 0));
        checks.same("7: greater than all", -1, () -> x.miles(0, 65535));
        woodIsLooked("7: miles", wood -> x.miles(wood, 65536));
        nameIsLooked("7: miles", name -> x.miles(0, name));
    }

    private void counts(String what, int... due) {
        for (int k = 0; k < due.length; k++) {
            int told = k;
            checks.same(what + ": count(0, " + k + ")", due[k], () -> x.count(0, told));
        }
    }

    private void promise08Count() {
        fresh();
        counts("8: empty", 0, 0, 0, 0, 0, 0, 0);
        x.put(0, 65535, 999);
        counts("8: one village", 1, 0, 0, 0, 16, 0, 999);
        x.put(0, 65534, 999);
        counts("8: two villages", 2, 1, 1, 2, 15, 1, 1998);
        fresh();
        village(0, 8, 9, 12, 14);
        counts("8: both sides", 4, 3, 2, 8, 13, 7, 10);
        fresh();
        village(0, 0, 1, 2, 4, 8, 16, 32, 64, 128, 256, 512, 1024, 2048, 4096, 8192, 16384, 32768);
        counts("8: the longest path there can be", 17, 16, 16, 152, 0, 65535, 153);
        woodIsLooked("8: count", wood -> x.count(wood, 0));
        whatIsLooked("8: count", 6, what -> x.count(0, what));
    }

    private void signIs(int place, int... due) {
        for (int k = 0; k <= 6; k++) {
            int what = k;
            checks.same("9: sign(0, " + place + ", " + k + ")", due[k], () -> x.sign(0, place, what));
        }
    }

    private void promise09Sign() {
        fresh();
        checks.index("9: an empty wood", () -> x.sign(0, 0, 0));
        x.put(0, 77, 1);
        signIs(0, -1, 1, 77, 77, -1, -1, 0);
        checks.index("9: behind the one name", () -> x.sign(0, 1, 0));
        fresh();
        village(0, 40000, 40001, 100, 40960, 101);
        signIs(0, 15, 5, 100, 40960, 1, 4, 0);
        signIs(1, 0, 2, 100, 101, 2, 3, 1);
        signIs(2, -1, 1, 100, 100, -1, -1, 2);
        signIs(3, -1, 1, 101, 101, -1, -1, 2);
        signIs(4, 13, 3, 40000, 40960, 5, 8, 1);
        signIs(5, 0, 2, 40000, 40001, 6, 7, 2);
        signIs(6, -1, 1, 40000, 40000, -1, -1, 3);
        signIs(7, -1, 1, 40001, 40001, -1, -1, 3);
        signIs(8, -1, 1, 40960, 40960, -1, -1, 2);
        for (int place : new int[] {-1, 9, MIN, MAX}) {
            checks.index("9: no place " + place, () -> x.sign(0, place, 0));
        }
        whatIsLooked("9: sign", 6, what -> x.sign(0, 0, what));
        hundreds(1, 24);
        woodIsLooked("9: sign", wood -> x.sign(wood, 0, 0));
        checks.same("9: the last place of a full wood", 2400, () -> x.sign(1, 46, 2));
        checks.index("9: behind the last place", () -> x.sign(1, 47, 2));
    }

    private void walkIs(int name, int posts, int village, int bit) {
        checks.same("10: walk(0, " + name + ", 0)", posts, () -> x.walk(0, name, 0));
        checks.same("10: walk(0, " + name + ", 1)", village, () -> x.walk(0, name, 1));
        checks.same("10: walk(0, " + name + ", 2)", bit, () -> x.walk(0, name, 2));
    }

    private void promise10Walk() {
        fresh();
        x.put(0, 65535, 1);
        walkIs(65535, 0, 65535, -1);
        walkIs(0, 0, 65535, 15);
        fresh();
        village(0, 40000, 40001, 100, 40960);
        walkIs(40000, 3, 40000, -1);
        walkIs(40001, 3, 40001, -1);
        walkIs(40960, 2, 40960, -1);
        walkIs(7, 1, 100, 6);
        walkIs(65535, 2, 40960, 14);
        walkIs(32769, 3, 40001, 12);
        walkIs(0, 1, 100, 6);
        woodIsLooked("10: walk", wood -> x.walk(wood, 65536, 0));
        whatIsLooked("10: walk", 2, what -> x.walk(1, 65536, what));
        nameIsLooked("10: walk", name -> x.walk(0, name, 0));
        nameIsLooked("10: walk in an empty wood", name -> x.walk(1, name, 0));
        checks.state("10: an empty wood", () -> x.walk(1, 0, 0));
        fresh();
        village(0, 0, 1, 2, 4, 8, 16, 32, 64, 128, 256, 512, 1024, 2048, 4096, 8192, 16384, 32768);
        walkIs(1, 16, 1, -1);
        walkIs(65535, 1, 32768, 14);
    }

    private void promise11Step() {
        fresh();
        checks.same("11: up in an empty wood", -1, () -> x.step(0, 0, true));
        checks.same("11: down in an empty wood", -1, () -> x.step(0, 65535, false));
        village(0, 0, 100, 200, 65535);
        village(1, 7, 8);
        checks.same("11: up to the next number", 8, () -> x.step(1, 7, true));
        checks.same("11: down to the next number", 7, () -> x.step(1, 8, false));
        checks.same("11: up from a village", 200, () -> x.step(0, 100, true));
        checks.same("11: down from a village", 0, () -> x.step(0, 100, false));
        checks.same("11: up from between", 200, () -> x.step(0, 101, true));
        checks.same("11: down from between", 100, () -> x.step(0, 101, false));
        checks.same("11: up to the greatest", 65535, () -> x.step(0, 200, true));
        checks.same("11: up from the greatest", -1, () -> x.step(0, 65535, true));
        checks.same("11: down from the smallest", -1, () -> x.step(0, 0, false));
        woodIsLooked("11: step", wood -> x.step(wood, -1, true));
        nameIsLooked("11: step up", name -> x.step(0, name, true));
        nameIsLooked("11: step down", name -> x.step(0, name, false));
    }

    private void promise12At() {
        fresh();
        checks.index("12: an empty wood", () -> x.at(0, 0));
        village(0, 300, 65535, 0);
        names("12: in order", 0, 0, 300, 65535);
        for (int k : new int[] {-1, 3, MIN, MAX}) {
            checks.index("12: at " + k, () -> x.at(0, k));
        }
        x.take(0, 65535);
        checks.index("12: one that was taken down", () -> x.at(0, 2));
        hundreds(1, 24);
        checks.same("12: the last of a full wood", 2400, () -> x.at(1, 23));
        checks.index("12: behind a full wood", () -> x.at(1, 24));
        woodIsLooked("12: at", wood -> x.at(wood, 0));
    }

    private void rangeIs(int low, int high, int... due) {
        for (int k = 0; k <= 3; k++) {
            int what = k;
            checks.same("13: range(0, " + low + ", " + high + ", " + k + ")", due[k],
                () -> x.range(0, low, high, what));
        }
    }

    private void promise13Range() {
        fresh();
        rangeIs(0, 65535, 0, 0, 0, -1);
        x.put(0, 0, 0);
        rangeIs(0, 0, 1, 0, 16, 0);
        x.put(0, 40000, 9);
        x.put(0, 40001, 7);
        x.put(0, 65535, 999);
        rangeIs(0, 65535, 4, 1015, 0, 999);
        rangeIs(40000, 40001, 2, 16, 15, 9);
        rangeIs(40001, 40001, 1, 7, 16, 7);
        rangeIs(40002, 65534, 0, 0, 0, -1);
        rangeIs(1, 65534, 2, 16, 15, 9);
        rangeIs(65535, 65535, 1, 999, 16, 999);
        rangeIs(40001, 65535, 2, 1006, 1, 999);
        checks.argument("13: low above high", () -> x.range(0, 5, 4, 0));
        checks.index("13: a wrong what is named first", () -> x.range(0, 5, 4, 4));
        woodIsLooked("13: range", wood -> x.range(wood, 5, 4, 0));
        whatIsLooked("13: range", 3, what -> x.range(0, 0, 0, what));
        nameIsLooked("13: range, low", low -> x.range(0, low, 65535, 0));
        nameIsLooked("13: range, high", high -> x.range(0, 0, high, 0));
        checks.argument("13: both wrong, in order", () -> x.range(0, -2, -1, 0));
        checks.argument("13: both too great, in order", () -> x.range(0, 65536, 65537, 0));
    }

    private void promise14Near() {
        fresh();
        checks.same("14: an empty wood", -1, () -> x.near(0, 0));
        x.put(0, 0, 1);
        checks.same("14: the only one", 0, () -> x.near(0, 65535));
        village(0, 1, 2, 4, 8);
        checks.same("14: itself", 4, () -> x.near(0, 4));
        checks.same("14: 8 is nearer to 12 than 4", 8, () -> x.near(0, 12));
        checks.same("14: 2 is nearer to 3 than 4", 2, () -> x.near(0, 3));
        checks.same("14: 4 is nearer to 7 than 8", 4, () -> x.near(0, 7));
        checks.same("14: 8 has the highest bit of 65535", 8, () -> x.near(0, 65535));
        fresh();
        village(0, 1020, 1024, 1500);
        checks.same("14: 1024 and 1023 are far by bits", 1020, () -> x.near(0, 1023));
        fresh();
        village(0, 40, 60);
        checks.same("14: 40 is nearer to 38 than 60", 40, () -> x.near(0, 38));
        woodIsLooked("14: near", wood -> x.near(wood, -1));
        nameIsLooked("14: near", name -> x.near(0, name));
        nameIsLooked("14: near in an empty wood", name -> x.near(1, name));
    }

    private void promise15Far() {
        fresh();
        checks.same("15: no village", -1, () -> x.far(0));
        x.put(0, 65535, 1);
        checks.same("15: one village", -1, () -> x.far(0));
        x.put(0, 65534, 1);
        checks.same("15: two villages", 1, () -> x.far(0));
        x.put(0, 0, 1);
        checks.same("15: all bits", 65535, () -> x.far(0));
        village(1, 100, 40000, 40001, 40960);
        checks.same("15: neither the smallest nor the next", 100 ^ 40960, () -> x.far(1));
        x.take(1, 40960);
        x.put(1, 39999, 1);
        checks.same("15: not the smallest and the greatest", 100 ^ 39999, () -> x.far(1));
        woodIsLooked("15: far", wood -> x.far(wood));
    }

    private void promise16Unlike() {
        checks.same("16: the same", -1, () -> x.unlike(5, 5));
        checks.same("16: both 0", -1, () -> x.unlike(0, 0));
        checks.same("16: both greatest", -1, () -> x.unlike(65535, 65535));
        checks.same("16: all bits", 15, () -> x.unlike(0, 65535));
        checks.same("16: the lowest bit", 0, () -> x.unlike(65534, 65535));
        for (int b = 0; b <= 15; b++) {
            int bit = b;
            checks.same("16: the bit " + b, b, () -> x.unlike(21845, 21845 ^ (1 << bit)));
            checks.same("16: all bits up to " + b, b, () -> x.unlike((2 << bit) - 1, 0));
        }
        nameIsLooked("16: unlike, a", a -> x.unlike(a, 0));
        nameIsLooked("16: unlike, b", b -> x.unlike(0, b));
        nameIsLooked("16: unlike, both", both -> x.unlike(both, both));
    }

    private void wouldBe(String state, int... due) {
        for (int k = 0; k <= 3; k++) {
            int what = k;
            checks.same("17: " + state + ": would(" + k + ")", due[k], () -> x.would(what));
        }
    }

    private void promise17Would() {
        fresh();
        wouldBe("empty", 0, 0, 0, 0);
        x.put(1, 5, 1);
        wouldBe("one village", 1, 0, 0, 0);
        x.put(0, 5, 2);
        wouldBe("the same in both", 1, 0, 0, 0);
        village(0, 7, 9);
        village(1, 9, 40000, 6);
        wouldBe("five villages", 5, 4, 4, 14);
        unchanged("17: would", () -> x.would(0));
        whatIsLooked("17: would", 3, what -> x.would(what));
        fresh();
        hundreds(0, 24);
        for (int k = 1; k <= 24; k++) {
            x.put(1, 100 * k + 32768, k);
        }
        int paths = x.count(0, 3) + x.count(1, 3) + 48;
        wouldBe("two full woods", 48, 47, x.count(0, 2) + 1, paths);
        x.take(1, 32868);
        x.put(1, 100, 1);
        checks.same("17: one in both", 47, () -> x.would(0));
    }

    private void promise18Advise() {
        fresh();
        checks.same("18: no village", -1, () -> x.advise(0));
        x.put(0, 65535, 1);
        checks.same("18: one village", 65535, () -> x.advise(0));
        x.put(0, 9, 1);
        checks.same("18: the smaller one of two", 9, () -> x.advise(0));
        fresh();
        village(0, 8, 9, 12, 14);
        checks.same("18: all alike", 8, () -> x.advise(0));
        fresh();
        village(0, 0, 32768, 32769, 32770, 32772, 32776);
        checks.same("18: alike too, with unlike paths", 0, () -> x.advise(0));
        fresh();
        village(0, 0, 1, 2, 3, 40000);
        checks.same("18: a short path with many beside", 40000, () -> x.advise(0));
        unchanged("18: advise", () -> x.advise(0));
        fresh();
        village(1, 0, 1, 2, 3, 40000, 40001, 40002, 40003, 40004, 40005, 40006, 40007);
        checks.same("18: the first of the longest paths", 40000, () -> x.advise(1));
        x.put(0, 10, 1);
        checks.same("18: one village of the other wood", 10, () -> x.advise(0));
        x.take(0, 10);
        checks.same("18: none is left", -1, () -> x.advise(0));
        woodIsLooked("18: advise", wood -> x.advise(wood));
    }

    private void promise19Mean() {
        fresh();
        checks.same("19: no village", 0.0, () -> x.mean(0));
        x.put(0, 1, 1);
        checks.same("19: one village", 0.0, () -> x.mean(0));
        x.put(0, 2, 1);
        checks.same("19: two villages", 1.0, () -> x.mean(0));
        x.put(0, 3, 1);
        checks.same("19: three villages", 5.0 / 3, () -> x.mean(0));
        x.put(0, 0, 1);
        checks.same("19: four villages", 2.0, () -> x.mean(0));
        checks.same("19: the other wood", 0.0, () -> x.mean(1));
        woodIsLooked("19: mean", wood -> x.mean(wood));
    }

    private void promise20Digest() {
        fresh();
        checks.same("20: empty", EMPTY_DIGEST, () -> x.digest());
        x.put(1, 6, 9);
        checks.same("20: one village", digestOf(
            0, 0, 0, 0, 0, 0, 0, -1,
            1, 0, 0, 0, 16, 0, 9, -1,
            -1, 1, 6, 6, -1, -1, 0,
            9,
            1, 0, 0, 0), () -> x.digest());
        x.put(0, 5, 7);
        x.put(0, 3, 8);
        checks.same("20: three villages", digestOf(
            2, 1, 1, 2, 13, 4, 15, 6,
            2, 2, 3, 5, 1, 2, 0,
            -1, 1, 3, 3, -1, -1, 1,
            -1, 1, 5, 5, -1, -1, 1,
            8, 7,
            1, 0, 0, 0, 16, 0, 9, -1,
            -1, 1, 6, 6, -1, -1, 0,
            9,
            3, 2, 2, 5), () -> x.digest());
        checks.same("20: it changes nothing", x.digest(), () -> x.digest());
    }

    public static void main(String[] args) {
        PromiseTest test = new PromiseTest();
        test.promise01NewObject();
        test.promise02Put();
        test.promise03Take();
        test.promise04Merge();
        test.promise05Cut();
        test.promise06Turn();
        test.promise07Miles();
        test.promise08Count();
        test.promise09Sign();
        test.promise10Walk();
        test.promise11Step();
        test.promise12At();
        test.promise13Range();
        test.promise14Near();
        test.promise15Far();
        test.promise16Unlike();
        test.promise17Would();
        test.promise18Advise();
        test.promise19Mean();
        test.promise20Digest();
        test.checks.end("PromiseTest");
    }
}
