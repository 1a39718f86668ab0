/** Two woods of finger posts; the document that it follows is ../shared/DOC.md. */
public final class FingerPosts {
    private static final int BITS = 16;
    private static final int GREATEST_NAME = 65535;
    private static final int MOST_MILES = 999;
    private static final int MOST_VILLAGES = 24;
    private static final int NONE = -1;

    // would() needs a row in which the villages of both woods stand.
    private static final int VILLAGE_ROOM = 2 * MOST_VILLAGES;
    private static final int SIGN_ROOM = 2 * VILLAGE_ROOM - 1;

    private static final int LAST_WOOD = 1;
    private static final int LAST_RULE = 3;
    private static final int LAST_OF_COUNT = 6;
    private static final int LAST_OF_SIGN = 6;
    private static final int LAST_OF_WALK = 2;
    private static final int LAST_OF_RANGE = 3;
    private static final int LAST_OF_WOULD = 3;

    private static final long DIGEST_START = 1747;
    private static final long DIGEST_FACTOR = 31;

    private final Villages woodZero;
    private final Villages woodOne;

    // Only room to work in: both are filled anew by each call that reads them.
    private final Villages both;
    private final Signs signs;

    public FingerPosts() {
        woodZero = new Villages();
        woodOne = new Villages();
        both = new Villages();
        signs = new Signs();
    }

    // ---- villages

    public int put(int wood, int name, int miles)
            throws IndexOutOfBoundsException, IllegalArgumentException, IllegalStateException {
        checkWood(wood);
        checkName(name);
        checkMiles(miles);
        Villages villages = villagesOf(wood);
        int before = villages.milesOf(name);
        if (before == NONE && villages.size() >= MOST_VILLAGES) {
            throw new IllegalStateException("the wood is full");
        }
        villages.set(name, miles);
        return before;
    }

    public int take(int wood, int name)
            throws IndexOutOfBoundsException, IllegalArgumentException, IllegalStateException {
        checkWood(wood);
        checkName(name);
        Villages villages = villagesOf(wood);
        int before = villages.milesOf(name);
        if (before == NONE) {
            throw new IllegalStateException("there is no such village");
        }
        villages.removeName(name);
        return before;
    }

    public int merge(int from, int rule) throws IndexOutOfBoundsException, IllegalStateException {
        checkWood(from);
        checkIndex(rule, LAST_RULE);
        Villages source = villagesOf(from);
        Villages target = otherThan(from);
        int common = source.namesAlsoIn(target);
        if (source.size() + target.size() - common > MOST_VILLAGES) {
            throw new IllegalStateException("these are too many for one wood");
        }
        for (int k = 0; k < source.size(); k++) {
            int name = source.nameAt(k);
            target.set(name, mergedMiles(rule, source.milesAt(k), target.milesOf(name)));
        }
        source.keepFirst(0);
        return common;
    }

    public int cut(int wood, int name)
            throws IndexOutOfBoundsException, IllegalArgumentException, IllegalStateException {
        checkWood(wood);
        checkName(name);
        Villages source = villagesOf(wood);
        Villages target = otherThan(wood);
        if (target.size() > 0) {
            throw new IllegalStateException("the other wood has a village");
        }
        int kept = source.smallerThan(name);
        for (int k = kept; k < source.size(); k++) {
            target.set(source.nameAt(k), source.milesAt(k));
        }
        source.keepFirst(kept);
        return target.size();
    }

    public int turn(int wood, int bits)
            throws IndexOutOfBoundsException, IllegalArgumentException, IllegalStateException {
        checkWood(wood);
        checkName(bits);
        Villages villages = villagesOf(wood);
        checkNotEmpty(villages);
        villages.changeBits(bits);
        return villages.nameAt(0);
    }

    // ---- what there is

    public int miles(int wood, int name) throws IndexOutOfBoundsException, IllegalArgumentException {
        checkWood(wood);
        checkName(name);
        return villagesOf(wood).milesOf(name);
    }

    public int count(int wood, int what) throws IndexOutOfBoundsException {
        checkWood(wood);
        checkIndex(what, LAST_OF_COUNT);
        Villages villages = villagesOf(wood);
        signs.fill(villages);
        return countOf(villages, signs, what);
    }

    public int sign(int wood, int place, int what) throws IndexOutOfBoundsException {
        checkWood(wood);
        signs.fill(villagesOf(wood));
        checkIndex(place, signs.size() - 1);
        checkIndex(what, LAST_OF_SIGN);
        return signs.tell(place, what);
    }

    public int walk(int wood, int name, int what)
            throws IndexOutOfBoundsException, IllegalArgumentException, IllegalStateException {
        checkWood(wood);
        checkIndex(what, LAST_OF_WALK);
        checkName(name);
        Villages villages = villagesOf(wood);
        checkNotEmpty(villages);
        signs.fill(villages);
        return signs.tellWalk(name, what);
    }

    public int step(int wood, int name, boolean up)
            throws IndexOutOfBoundsException, IllegalArgumentException {
        checkWood(wood);
        checkName(name);
        Villages villages = villagesOf(wood);
        if (up) {
            return villages.nameAt(villages.smallerThan(name + 1));
        }
        return villages.nameAt(villages.smallerThan(name) - 1);
    }

    public int at(int wood, int k) throws IndexOutOfBoundsException {
        checkWood(wood);
        Villages villages = villagesOf(wood);
        checkIndex(k, villages.size() - 1);
        return villages.nameAt(k);
    }

    public int range(int wood, int low, int high, int what)
            throws IndexOutOfBoundsException, IllegalArgumentException {
        checkWood(wood);
        checkIndex(what, LAST_OF_RANGE);
        checkName(low);
        checkName(high);
        if (low > high) {
            throw new IllegalArgumentException("low is greater than high");
        }
        Villages villages = villagesOf(wood);
        int from = villages.smallerThan(low);
        int to = villages.smallerThan(high + 1);
        switch (what) {
            case 0:
                return to - from;
            case 1:
                return villages.addedMiles(from, to);
            case 2:
                return villages.sharedBits(from, to);
            default:
                return villages.mostMiles(from, to);
        }
    }

    public int near(int wood, int name) throws IndexOutOfBoundsException, IllegalArgumentException {
        checkWood(wood);
        checkName(name);
        return villagesOf(wood).nearest(name);
    }

    public int far(int wood) throws IndexOutOfBoundsException {
        checkWood(wood);
        return villagesOf(wood).farthest();
    }

    public int unlike(int a, int b) throws IllegalArgumentException {
        checkName(a);
        checkName(b);
        return firstUnlikeBit(a, b);
    }

    // ---- what would be

    public int would(int what) throws IndexOutOfBoundsException {
        checkIndex(what, LAST_OF_WOULD);
        fillBoth();
        signs.fill(both);
        return countOf(both, signs, what);
    }

    public int advise(int wood) throws IndexOutOfBoundsException {
        checkWood(wood);
        signs.fill(villagesOf(wood));
        return signs.bestGivenUp();
    }

    public double mean(int wood) throws IndexOutOfBoundsException {
        checkWood(wood);
        Villages villages = villagesOf(wood);
        int all = villages.size();
        if (all == 0) {
            return 0;
        }
        signs.fill(villages);
        return (double) signs.addedPaths() / all;
    }

    public long digest() {
        long d = digestOfWood(DIGEST_START, woodZero);
        d = digestOfWood(d, woodOne);
        fillBoth();
        signs.fill(both);
        for (int what = 0; what <= LAST_OF_WOULD; what++) {
            d = digested(d, countOf(both, signs, what));
        }
        return d;
    }

    private long digestOfWood(long start, Villages villages) {
        long d = start;
        signs.fill(villages);
        for (int what = 0; what <= LAST_OF_COUNT; what++) {
            d = digested(d, countOf(villages, signs, what));
        }
        d = digested(d, villages.farthest());
        for (int place = 0; place < signs.size(); place++) {
            for (int what = 0; what <= LAST_OF_SIGN; what++) {
                d = digested(d, signs.tell(place, what));
            }
        }
        for (int k = 0; k < villages.size(); k++) {
            d = digested(d, villages.milesAt(k));
        }
        return d;
    }

    private static long digested(long d, int x) {
        return d * DIGEST_FACTOR + x;
    }

    private Villages villagesOf(int wood) {
        return wood == 0 ? woodZero : woodOne;
    }

    private Villages otherThan(int wood) {
        return wood == 0 ? woodOne : woodZero;
    }

    private void fillBoth() {
        both.keepFirst(0);
        both.setAll(woodZero);
        both.setAll(woodOne);
    }

    /** Signs must have been filled with these villages: so digest() fills them once for all. */
    private static int countOf(Villages villages, Signs signs, int what) {
        switch (what) {
            case 0:
                return villages.size();
            case 1:
                return signs.postCount();
            case 2:
                return signs.longestPath();
            case 3:
                return signs.addedPaths();
            case 4:
                return villages.sharedBits(0, villages.size());
            case 5:
                return signs.postBits();
            default:
                return villages.addedMiles(0, villages.size());
        }
    }

    private static int mergedMiles(int rule, int source, int target) {
        if (target == NONE) {
            return source;
        }
        switch (rule) {
            case 0:
                return source;
            case 1:
                return target;
            case 2:
                return Math.min(source + target, MOST_MILES);
            default:
                return Math.min(source, target);
        }
    }

    private static void checkWood(int wood) {
        checkIndex(wood, LAST_WOOD);
    }

    private static void checkIndex(int index, int greatest) {
        if (index < 0 || index > greatest) {
            throw new IndexOutOfBoundsException("there is no such number");
        }
    }

    private static void checkName(int name) {
        if (name < 0 || name > GREATEST_NAME) {
            throw new IllegalArgumentException("that is not a name");
        }
    }

    private static void checkMiles(int miles) {
        if (miles < 0 || miles > MOST_MILES) {
            throw new IllegalArgumentException("these are not miles");
        }
    }

    private static void checkNotEmpty(Villages villages) {
        if (villages.size() == 0) {
            throw new IllegalStateException("the wood has no village");
        }
    }

    private static boolean hasBit(int name, int bit) {
        return ((name >> bit) & 1) == 1;
    }

    private static int firstUnlikeBit(int a, int b) {
        int unlikeBits = a ^ b;
        if (unlikeBits == 0) {
            return NONE;
        }
        int bit = 0;
        for (int half = BITS / 2; half > 0; half >>= 1) {
            if ((unlikeBits >> (bit + half)) != 0) {
                bit += half;
            }
        }
        return bit;
    }

    // All rows are read and written by these two, so that no index goes untested.

    private static int read(int[] row, int index) {
        return index >= 0 && index < row.length ? row[index] : NONE;
    }

    private static void write(int[] row, int index, int value) {
        if (index >= 0 && index < row.length) {
            row[index] = value;
        }
    }

    /** Villages with different names, in the order of these. */
    private static final class Villages {
        private final int[] names = new int[VILLAGE_ROOM];
        private final int[] miles = new int[VILLAGE_ROOM];
        private int size;

        int size() {
            return size;
        }

        int nameAt(int k) {
            return k < size ? read(names, k) : NONE;
        }

        int milesAt(int k) {
            return k < size ? read(miles, k) : NONE;
        }

        int milesOf(int name) {
            int k = smallerThan(name);
            return nameAt(k) == name ? milesAt(k) : NONE;
        }

        /** How many names are smaller: the place of this name too, or where it would stand. */
        int smallerThan(int name) {
            int k = 0;
            while (k < size && read(names, k) < name) {
                k++;
            }
            return k;
        }

        int namesAlsoIn(Villages other) {
            int common = 0;
            for (int k = 0; k < size; k++) {
                if (other.milesOf(nameAt(k)) != NONE) {
                    common++;
                }
            }
            return common;
        }

        void set(int name, int itsMiles) {
            int k = smallerThan(name);
            if (nameAt(k) != name) {
                makeRoomAt(k);
            }
            write(names, k, name);
            write(miles, k, itsMiles);
        }

        void setAll(Villages others) {
            for (int k = 0; k < others.size(); k++) {
                set(others.nameAt(k), others.milesAt(k));
            }
        }

        void removeName(int name) {
            for (int k = smallerThan(name); k < size - 1; k++) {
                write(names, k, read(names, k + 1));
                write(miles, k, read(miles, k + 1));
            }
            size--;
        }

        void keepFirst(int kept) {
            size = kept;
        }

        /** Fills the row anew from its start: what is still to be read stands behind what is written. */
        void changeBits(int bits) {
            int turned = size;
            keepFirst(0);
            for (int k = 0; k < turned; k++) {
                set(read(names, k) ^ bits, read(miles, k));
            }
        }

        int addedMiles(int from, int to) {
            int sum = 0;
            for (int k = from; k < to; k++) {
                sum += milesAt(k);
            }
            return sum;
        }

        int mostMiles(int from, int to) {
            int most = NONE;
            for (int k = from; k < to; k++) {
                most = Math.max(most, milesAt(k));
            }
            return most;
        }

        /** The smallest and the greatest name tell it: all between them begin as both do. */
        int sharedBits(int from, int to) {
            if (from >= to) {
                return 0;
            }
            return BITS - 1 - firstUnlikeBit(nameAt(from), nameAt(to - 1));
        }

        int nearest(int name) {
            int best = NONE;
            for (int k = 0; k < size; k++) {
                if (best == NONE || (nameAt(k) ^ name) < (best ^ name)) {
                    best = nameAt(k);
                }
            }
            return best;
        }

        int farthest() {
            int most = NONE;
            for (int k = 0; k < size; k++) {
                for (int j = k + 1; j < size; j++) {
                    most = Math.max(most, nameAt(k) ^ nameAt(j));
                }
            }
            return most;
        }

        private void makeRoomAt(int k) {
            for (int j = size; j > k; j--) {
                write(names, j, read(names, j - 1));
                write(miles, j, read(miles, j - 1));
            }
            size++;
        }
    }

    /** The signs of some villages, as they stand in a row; each row here is by their places. */
    private static final class Signs {
        private final int[] bit = new int[SIGN_ROOM];
        private final int[] firstVillage = new int[SIGN_ROOM];
        private final int[] names = new int[SIGN_ROOM];
        private final int[] smallest = new int[SIGN_ROOM];
        private final int[] greatest = new int[SIGN_ROOM];
        private final int[] lowSide = new int[SIGN_ROOM];
        private final int[] highSide = new int[SIGN_ROOM];
        private final int[] postsAhead = new int[SIGN_ROOM];

        // How many names the other side has of the post that is the last one ahead.
        private final int[] namesBeside = new int[SIGN_ROOM];
        private int size;

        int size() {
            return size;
        }

        /** One pass is enough: both sides of a post stand behind it in the row. */
        void fill(Villages villages) {
            int all = villages.size();
            size = all == 0 ? 0 : 2 * all - 1;
            begin(0, 0, all, 0, 0);
            for (int place = 0; place < size; place++) {
                fillAt(place, villages);
            }
        }

        int tell(int place, int what) {
            switch (what) {
                case 0:
                    return read(bit, place);
                case 1:
                    return read(names, place);
                case 2:
                    return read(smallest, place);
                case 3:
                    return read(greatest, place);
                case 4:
                    return read(lowSide, place);
                case 5:
                    return read(highSide, place);
                default:
                    return read(postsAhead, place);
            }
        }

        int tellWalk(int name, int what) {
            int place = placeBy(name);
            switch (what) {
                case 0:
                    return read(postsAhead, place);
                case 1:
                    return read(smallest, place);
                default:
                    return firstUnlikeBit(read(smallest, place), name);
            }
        }

        int postCount() {
            int posts = 0;
            for (int place = 0; place < size; place++) {
                if (isPost(place)) {
                    posts++;
                }
            }
            return posts;
        }

        int postBits() {
            int bits = 0;
            for (int place = 0; place < size; place++) {
                if (isPost(place)) {
                    bits |= 1 << read(bit, place);
                }
            }
            return bits;
        }

        int longestPath() {
            int longest = 0;
            for (int place = 0; place < size; place++) {
                longest = Math.max(longest, read(postsAhead, place));
            }
            return longest;
        }

        int addedPaths() {
            int sum = 0;
            for (int place = 0; place < size; place++) {
                if (!isPost(place)) {
                    sum += read(postsAhead, place);
                }
            }
            return sum;
        }

        /**
         * With a village its own path goes, and so does the last post ahead of it, which spares
         * each name on its other side one post. Names come in their order, so the first one of
         * several is the smallest.
         */
        int bestGivenUp() {
            int best = NONE;
            int mostSpared = NONE;
            for (int place = 0; place < size; place++) {
                int spared = read(postsAhead, place) + read(namesBeside, place);
                if (!isPost(place) && spared > mostSpared) {
                    mostSpared = spared;
                    best = read(smallest, place);
                }
            }
            return best;
        }

        private boolean isPost(int place) {
            return read(bit, place) != NONE;
        }

        private int placeBy(int name) {
            int place = 0;
            for (int posts = 0; posts < BITS && isPost(place); posts++) {
                boolean high = hasBit(name, read(bit, place));
                place = high ? read(highSide, place) : read(lowSide, place);
            }
            return place;
        }

        private void begin(int place, int first, int count, int posts, int beside) {
            write(firstVillage, place, first);
            write(names, place, count);
            write(postsAhead, place, posts);
            write(namesBeside, place, beside);
        }

        private void fillAt(int place, Villages villages) {
            int first = read(firstVillage, place);
            int last = first + read(names, place) - 1;
            int low = villages.nameAt(first);
            int high = villages.nameAt(last);
            write(smallest, place, low);
            write(greatest, place, high);
            write(bit, place, firstUnlikeBit(low, high));
            write(lowSide, place, NONE);
            write(highSide, place, NONE);
            if (first < last) {
                fillSides(place, villages);
            }
        }

        private void fillSides(int place, Villages villages) {
            int first = read(firstVillage, place);
            int end = first + read(names, place);
            int split = first;
            while (split < end && !hasBit(villages.nameAt(split), read(bit, place))) {
                split++;
            }
            int posts = read(postsAhead, place) + 1;
            // Some n names have 2n - 1 signs, and these of the low side come first.
            int behindLow = place + 2 * (split - first);
            write(lowSide, place, place + 1);
            write(highSide, place, behindLow);
            begin(place + 1, first, split - first, posts, end - split);
            begin(behindLow, split, end - split, posts, split - first);
        }
    }
}
