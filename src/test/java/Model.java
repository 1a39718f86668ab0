import java.util.ArrayList;
import java.util.List;
import java.util.Map;
import java.util.Set;
import java.util.TreeMap;
import java.util.TreeSet;

/** The document read word by word, with sets and a tree of signs, to be compared with the class. */
final class Model {
    /** A sign: a name (bit -1) or a post with two sides. */
    private static final class Sign {
        int bit = -1;
        Sign low = null;
        Sign high = null;
        TreeSet<Integer> names = new TreeSet<>();
        int ahead = 0;
    }

    private final List<TreeMap<Integer, Integer>> woods = List.of(new TreeMap<>(), new TreeMap<>());

    private static boolean has(int name, int bit) {
        return (name & (1 << bit)) != 0;
    }

    private static int shared(Set<Integer> names) {
        for (int bit = 15; bit >= 0; bit--) {
            int ones = 0;
            for (int name : names) {
                ones += has(name, bit) ? 1 : 0;
            }
            if (ones != 0 && ones != names.size()) {
                return 15 - bit;
            }
        }
        return names.isEmpty() ? 0 : 16;
    }

    private static Sign signsOf(Set<Integer> names, int ahead) {
        Sign sign = new Sign();
        sign.names.addAll(names);
        sign.ahead = ahead;
        if (names.size() > 1) {
            sign.bit = 15 - shared(names);
            TreeSet<Integer> low = new TreeSet<>();
            TreeSet<Integer> high = new TreeSet<>();
            for (int name : names) {
                (has(name, sign.bit) ? high : low).add(name);
            }
            sign.low = signsOf(low, ahead + 1);
            sign.high = signsOf(high, ahead + 1);
        }
        return sign;
    }

    private static void standInRow(Sign sign, List<Sign> row) {
        row.add(sign);
        if (sign.bit >= 0) {
            standInRow(sign.low, row);
            standInRow(sign.high, row);
        }
    }

    private static List<Sign> row(Set<Integer> names) {
        List<Sign> row = new ArrayList<>();
        if (!names.isEmpty()) {
            standInRow(signsOf(names, 0), row);
        }
        return row;
    }

    private static int told(Set<Integer> names, int what) {
        int posts = 0;
        int longest = 0;
        int all = 0;
        int bits = 0;
        for (Sign sign : row(names)) {
            if (sign.bit >= 0) {
                posts++;
                bits |= 1 << sign.bit;
            } else {
                longest = Math.max(longest, sign.ahead);
                all += sign.ahead;
            }
        }
        return new int[] {names.size(), posts, longest, all, shared(names), bits}[what];
    }

    private static int[] told(List<Sign> row, Sign s) {
        return new int[] {s.bit, s.names.size(), s.names.first(), s.names.last(),
            row.indexOf(s.low), row.indexOf(s.high), s.ahead};
    }

    private static void index(boolean good) {
        if (!good) {
            throw new IndexOutOfBoundsException();
        }
    }

    private static void argument(boolean good) {
        if (!good) {
            throw new IllegalArgumentException();
        }
    }

    private static void state(boolean good) {
        if (!good) {
            throw new IllegalStateException();
        }
    }

    private static boolean within(int x, int last) {
        return x >= 0 && x <= last;
    }

    int put(int wood, int name, int miles) {
        index(within(wood, 1));
        argument(within(name, 65535) && within(miles, 999));
        TreeMap<Integer, Integer> map = woods.get(wood);
        state(map.containsKey(name) || map.size() < 24);
        Integer before = map.put(name, miles);
        return before == null ? -1 : before;
    }

    int take(int wood, int name) {
        index(within(wood, 1));
        argument(within(name, 65535));
        state(woods.get(wood).containsKey(name));
        return woods.get(wood).remove(name);
    }

    int merge(int from, int rule) {
        index(within(from, 1) && within(rule, 3));
        TreeMap<Integer, Integer> source = woods.get(from);
        TreeMap<Integer, Integer> target = woods.get(1 - from);
        TreeMap<Integer, Integer> all = new TreeMap<>(target);
        int common = 0;
        for (Map.Entry<Integer, Integer> e : source.entrySet()) {
            int here = e.getValue();
            if (target.containsKey(e.getKey())) {
                int there = target.get(e.getKey());
                int[] miles = {here, there, Math.min(999, here + there), Math.min(here, there)};
                all.put(e.getKey(), miles[rule]);
                common++;
            } else {
                all.put(e.getKey(), here);
            }
        }
        state(all.size() <= 24);
        target.putAll(all);
        source.clear();
        return common;
    }

    int cut(int wood, int name) {
        index(within(wood, 1));
        argument(within(name, 65535));
        state(woods.get(1 - wood).isEmpty());
        Map<Integer, Integer> tail = woods.get(wood).tailMap(name, true);
        int moved = tail.size();
        woods.get(1 - wood).putAll(tail);
        tail.clear();
        return moved;
    }

    int turn(int wood, int bits) {
        index(within(wood, 1));
        argument(within(bits, 65535));
        TreeMap<Integer, Integer> map = woods.get(wood);
        state(!map.isEmpty());
        TreeMap<Integer, Integer> turned = new TreeMap<>();
        map.forEach((name, miles) -> turned.put(name ^ bits, miles));
        map.clear();
        map.putAll(turned);
        return map.firstKey();
    }

    int miles(int wood, int name) {
        index(within(wood, 1));
        argument(within(name, 65535));
        return woods.get(wood).getOrDefault(name, -1);
    }

    int count(int wood, int what) {
        index(within(wood, 1) && within(what, 6));
        TreeMap<Integer, Integer> map = woods.get(wood);
        if (what == 6) {
            return map.values().stream().mapToInt(Integer::intValue).sum();
        }
        return told(map.keySet(), what);
    }

    int sign(int wood, int place, int what) {
        index(within(wood, 1) && within(what, 6));
        List<Sign> row = row(woods.get(wood).keySet());
        index(within(place, row.size() - 1));
        return told(row, row.get(place))[what];
    }

    int walk(int wood, int name, int what) {
        index(within(wood, 1) && within(what, 2));
        argument(within(name, 65535));
        state(!woods.get(wood).isEmpty());
        Sign sign = signsOf(woods.get(wood).keySet(), 0);
        while (sign.bit >= 0) {
            sign = has(name, sign.bit) ? sign.high : sign.low;
        }
        int village = sign.names.first();
        return new int[] {sign.ahead, village, unlike(village, name)}[what];
    }

    int step(int wood, int name, boolean up) {
        index(within(wood, 1));
        argument(within(name, 65535));
        TreeMap<Integer, Integer> map = woods.get(wood);
        Integer next = up ? map.higherKey(name) : map.lowerKey(name);
        return next == null ? -1 : next;
    }

    int at(int wood, int k) {
        index(within(wood, 1) && within(k, woods.get(wood).size() - 1));
        return new ArrayList<>(woods.get(wood).keySet()).get(k);
    }

    int range(int wood, int low, int high, int what) {
        index(within(wood, 1) && within(what, 3));
        argument(within(low, 65535) && within(high, 65535) && low <= high);
        Map<Integer, Integer> part = woods.get(wood).subMap(low, true, high, true);
        int sum = 0;
        int most = -1;
        for (int miles : part.values()) {
            sum += miles;
            most = Math.max(most, miles);
        }
        return new int[] {part.size(), sum, shared(part.keySet()), most}[what];
    }

    int near(int wood, int name) {
        index(within(wood, 1));
        argument(within(name, 65535));
        int best = -1;
        for (int village : woods.get(wood).keySet()) {
            best = best < 0 || (village ^ name) < (best ^ name) ? village : best;
        }
        return best;
    }

    int far(int wood) {
        index(within(wood, 1));
        int most = -1;
        for (int a : woods.get(wood).keySet()) {
            for (int b : woods.get(wood).keySet()) {
                most = a != b && (a ^ b) > most ? a ^ b : most;
            }
        }
        return most;
    }

    int unlike(int a, int b) {
        argument(within(a, 65535) && within(b, 65535));
        int bit = 15;
        while (bit >= 0 && has(a, bit) == has(b, bit)) {
            bit--;
        }
        return bit;
    }

    int would(int what) {
        index(within(what, 3));
        TreeSet<Integer> all = new TreeSet<>(woods.get(0).keySet());
        all.addAll(woods.get(1).keySet());
        return told(all, what);
    }

    int advise(int wood) {
        index(within(wood, 1));
        int best = -1;
        int least = Integer.MAX_VALUE;
        for (int name : woods.get(wood).keySet()) {
            TreeSet<Integer> others = new TreeSet<>(woods.get(wood).keySet());
            others.remove(name);
            if (told(others, 3) < least) {
                least = told(others, 3);
                best = name;
            }
        }
        return best;
    }

    double mean(int wood) {
        index(within(wood, 1));
        int all = woods.get(wood).size();
        return all == 0 ? 0 : (double) count(wood, 3) / all;
    }

    long digest() {
        List<Integer> numbers = new ArrayList<>();
        for (int wood = 0; wood < 2; wood++) {
            for (int what = 0; what <= 6; what++) {
                numbers.add(count(wood, what));
            }
            numbers.add(far(wood));
            List<Sign> row = row(woods.get(wood).keySet());
            for (Sign sign : row) {
                for (int x : told(row, sign)) {
                    numbers.add(x);
                }
            }
            numbers.addAll(woods.get(wood).values());
        }
        for (int what = 0; what <= 3; what++) {
            numbers.add(would(what));
        }
        long d = 1747;
        for (int x : numbers) {
            d = d * 31 + x;
        }
        return d;
    }
}
