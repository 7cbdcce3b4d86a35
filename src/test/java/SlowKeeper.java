import java.util.ArrayList;
import java.util.List;
import java.util.TreeSet;

/** The document's words once more, in the slowest and plainest form, to compare with. */
final class SlowKeeper {
    private static final class Right {
        int product;
        int measure;
        int count;
        int lent;
        int version;
        int lastDay;
    }

    private final int[] cores = {1, 1, 1, 1, 1, 1, 1, 1};
    private int[] hosts = {-1, -1, -1, -1, -1, -1, -1, -1};
    private final int[][] found = new int[8][4];
    private final int[] latest = {1, 1, 1, 1};
    private final int[] price = {1, 1, 1, 1};
    private final List<Right> rights = new ArrayList<>();
    private int today = 0;

    int setCores(int machine, int value) {
        index(machine, 8);
        range(value, 1, 64);
        int before = cores[machine];
        cores[machine] = value;
        return before;
    }

    int move(int machine, int host) {
        mayMove(machine, host);
        int before = hosts[machine];
        hosts[machine] = host;
        return before;
    }

    int find(int machine, int product, int version) {
        index(machine, 8);
        index(product, 4);
        range(version, 0, latest[product]);
        int before = found[machine][product];
        found[machine][product] = version;
        return before;
    }

    int setPrice(int product, int value) {
        index(product, 4);
        range(value, 0, 1000);
        int before = price[product];
        price[product] = value;
        return before;
    }

    int release(int product) {
        index(product, 4);
        state(latest[product] < 9);
        int renewed = 0;
        for (Right right : rights) {
            if (right.product == product && right.lastDay >= today && right.version == latest[product]) {
                right.version++;
                renewed++;
            }
        }
        latest[product]++;
        return renewed;
    }

    int buy(int product, int measure, int count, int care) {
        index(product, 4);
        range(measure, 0, 1);
        range(count, 1, 500);
        range(care, 0, 1000);
        state(rights.size() < 12);
        return add(product, measure, count, today + care - 1);
    }

    int upgrade(int number, int count) {
        index(number, rights.size());
        range(count, 1, 500);
        Right base = rights.get(number);
        state(base.count >= count);
        state(base.version != latest[base.product]);
        state(rights.size() < 12);
        base.count -= count;
        return add(base.product, base.measure, count, base.lastDay);
    }

    int lend(int number, int count) {
        index(number, rights.size());
        range(count, -500, 500);
        Right right = rights.get(number);
        state(right.count >= count);
        state(right.lent >= -count);
        right.count -= count;
        right.lent += count;
        return right.lent;
    }

    int pass(int days) {
        range(days, 1, 400);
        today += days;
        return today;
    }

    int today() {
        return today;
    }

    int rights() {
        return rights.size();
    }

    int countOf(int number) {
        index(number, rights.size());
        return rights.get(number).count;
    }

    int versionOf(int number) {
        index(number, rights.size());
        return rights.get(number).version;
    }

    int latest(int product) {
        index(product, 4);
        return latest[product];
    }

    int hostOf(int machine) {
        index(machine, 8);
        return hosts[machine];
    }

    int weight(int machine, int product) {
        index(machine, 8);
        index(product, 4);
        return found[machine][product] == 0 ? 0 : cores[machine] * price[product];
    }

    int covers(int number, int machine) {
        index(number, rights.size());
        index(machine, 8);
        return coverOf(rights.get(number), 1 << machine);
    }

    int gap(int product) {
        return weightOf(uncovered(product), product);
    }

    int uncovered(int product) {
        index(product, 4);
        return least(layAll(product, null), product);
    }

    int gapByAll(int product) {
        index(product, 4);
        int usable = 0;
        for (Right right : rights) {
            usable += right.product == product && right.count > 0 ? 1 : 0;
        }
        state(usable <= 2);
        return gap(product);
    }

    int gapIf(int product, int machine, int host) {
        index(product, 4);
        mayMove(machine, host);
        int[] kept = hosts;
        hosts = kept.clone();
        hosts[machine] = host;
        int gap = gap(product);
        hosts = kept;
        return gap;
    }

    int spare(int number) {
        index(number, rights.size());
        Right right = rights.get(number);
        int gap = gap(right.product);
        TreeSet<Integer> others = layAll(right.product, right);
        for (int part = right.count; part > 0; part--) {
            TreeSet<Integer> left = lay(right, right.count - part, others);
            if (weightOf(least(left, right.product), right.product) == gap) {
                return part;
            }
        }
        return 0;
    }

    private int add(int product, int measure, int count, int lastDay) {
        Right right = new Right();
        right.product = product;
        right.measure = measure;
        right.count = count;
        right.version = latest[product];
        right.lastDay = lastDay;
        rights.add(right);
        return rights.size() - 1;
    }

    private void mayMove(int machine, int host) {
        index(machine, 8);
        if (host != -1) {
            index(host, 8);
        }
        range(machine == host ? 1 : 0, 0, 0);
        for (int guest = 0; guest < 8; guest++) {
            state(hosts[guest] != machine || host == -1);
        }
        state(host == -1 || hosts[host] == -1);
    }

    private TreeSet<Integer> layAll(int product, Right but) {
        TreeSet<Integer> uncovered = new TreeSet<>();
        int havers = 0;
        for (int machine = 0; machine < 8; machine++) {
            havers |= found[machine][product] > 0 ? 1 << machine : 0;
        }
        uncovered.add(havers);
        for (Right right : rights) {
            if (right.product == product && right != but) {
                uncovered = lay(right, right.count, uncovered);
            }
        }
        return uncovered;
    }

    private TreeSet<Integer> lay(Right right, int count, TreeSet<Integer> uncovered) {
        TreeSet<Integer> covers = new TreeSet<>();
        for (int set = 0; set < 256; set++) {
            if (takenBy(right, set) <= count) {
                covers.add(coverOf(right, set));
            }
        }
        TreeSet<Integer> left = new TreeSet<>();
        for (int before : uncovered) {
            for (int cover : covers) {
                left.add(before & ~cover);
            }
        }
        return left;
    }

    private int takenBy(Right right, int set) {
        int taken = 0;
        for (int machine = 0; machine < 8; machine++) {
            if ((set >> machine & 1) == 1) {
                taken += right.measure == 0 ? 1 : cores[machine] < 4 ? 4 : cores[machine];
            }
        }
        return taken;
    }

    private int coverOf(Right right, int set) {
        int cover = 0;
        for (int machine = 0; machine < 8; machine++) {
            boolean laid = (set >> machine & 1) == 1;
            boolean hosted = right.measure == 1 && hosts[machine] >= 0 && (set >> hosts[machine] & 1) == 1;
            int version = found[machine][right.product];
            if ((laid || hosted) && version != 0 && version <= right.version) {
                cover |= 1 << machine;
            }
        }
        return cover;
    }

    private int least(TreeSet<Integer> sets, int product) {
        int least = 255;
        int leastWeight = Integer.MAX_VALUE;
        for (int set : sets) {
            if (weightOf(set, product) < leastWeight) {
                least = set;
                leastWeight = weightOf(set, product);
            }
        }
        return least;
    }

    private int weightOf(int set, int product) {
        int sum = 0;
        for (int machine = 0; machine < 8; machine++) {
            sum += (set >> machine & 1) * weight(machine, product);
        }
        return sum;
    }

    private static void index(int value, int size) {
        if (value < 0 || value >= size) {
            throw new IndexOutOfBoundsException();
        }
    }

    private static void range(int value, int least, int most) {
        if (value < least || value > most) {
            throw new IllegalArgumentException();
        }
    }

    private static void state(boolean holds) {
        if (!holds) {
            throw new IllegalStateException();
        }
    }
}
