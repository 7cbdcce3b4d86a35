import java.util.ArrayList;
import java.util.Arrays;

/** A keeper of programme licences; see README.md. Sets of machines are numbers, bit m for the machine m. */
public final class LicenceKeeper {
    public static final int NONE = -1;
    public static final int DEVICE = 0, CORE = 1;

    private static final int MACHINES = 8;
    private static final int MACHINE_SETS = 1 << MACHINES;
    private static final int PRODUCTS = 4;
    private static final int MOST_RIGHTS = 12;
    private static final int MOST_CORES = 64;
    private static final int MOST_PRICE = 1000;
    private static final int MOST_COUNT = 500;
    private static final int MOST_CARE = 1000;
    private static final int MOST_DAYS = 400;
    private static final int LAST_VERSION = 9;
    private static final int LEAST_CORES_TAKEN = 4;
    private static final int MOST_RIGHTS_TRIED = 2;
    /** More than any right can take on all machines together. */
    private static final int TOO_MUCH = 1000000;

    private final int[] cores = new int[MACHINES];
    private final int[] hosts = new int[MACHINES];
    private final int[] supposedHosts = new int[MACHINES];
    /** For each machine the version of each product, 0 if it has none. */
    private final int[][] found = new int[MACHINES][PRODUCTS];
    private final int[] latestVersions = new int[PRODUCTS];
    private final int[] prices = new int[PRODUCTS];
    private final ArrayList<Right> held = new ArrayList<>();
    private final Layings layings = new Layings();
    private int day = 0;

    public LicenceKeeper() {
        Arrays.fill(cores, 1);
        Arrays.fill(hosts, NONE);
        Arrays.fill(latestVersions, 1);
        Arrays.fill(prices, 1);
    }

    // ---- machines

    public int setCores(int machine, int cores) throws IndexOutOfBoundsException, IllegalArgumentException {
        requireMachine(machine);
        requireRange(cores, 1, MOST_CORES);
        int before = this.cores[machine];
        this.cores[machine] = cores;
        return before;
    }

    public int move(int machine, int host)
            throws IndexOutOfBoundsException, IllegalArgumentException, IllegalStateException {
        requireMovable(machine, host);
        int before = hosts[machine];
        hosts[machine] = host;
        return before;
    }

    public int find(int machine, int product, int version)
            throws IndexOutOfBoundsException, IllegalArgumentException {
        requireMachine(machine);
        requireProduct(product);
        requireRange(version, 0, latestVersions[product]);
        int before = found[machine][product];
        found[machine][product] = version;
        return before;
    }

    // ---- products and rights

    public int setPrice(int product, int price) throws IndexOutOfBoundsException, IllegalArgumentException {
        requireProduct(product);
        requireRange(price, 0, MOST_PRICE);
        int before = prices[product];
        prices[product] = price;
        return before;
    }

    public int release(int product) throws IndexOutOfBoundsException, IllegalStateException {
        requireProduct(product);
        int old = latestVersions[product];
        if (old >= LAST_VERSION) {
            throw new IllegalStateException("the product has its last version");
        }
        latestVersions[product] = old + 1;
        int renewed = 0;
        for (int i = 0; i < held.size(); i++) {
            Right right = held.get(i);
            if (right.product == product && right.version == old && right.lastCareDay >= day) {
                right.version = old + 1;
                renewed++;
            }
        }
        return renewed;
    }

    public int buy(int product, int measure, int count, int care)
            throws IndexOutOfBoundsException, IllegalArgumentException, IllegalStateException {
        requireProduct(product);
        requireRange(measure, DEVICE, CORE);
        requireRange(count, 1, MOST_COUNT);
        requireRange(care, 0, MOST_CARE);
        requireRoomForRight();
        return addRight(product, measure, count, day + care - 1);
    }

    public int upgrade(int right, int count)
            throws IndexOutOfBoundsException, IllegalArgumentException, IllegalStateException {
        Right base = rightAt(right);
        requireRange(count, 1, MOST_COUNT);
        requireCount(base, count);
        if (base.version == latestVersions[base.product]) {
            throw new IllegalStateException("the right is of the latest version");
        }
        requireRoomForRight();
        base.count -= count;
        return addRight(base.product, base.measure, count, base.lastCareDay);
    }

    public int lend(int right, int count)
            throws IndexOutOfBoundsException, IllegalArgumentException, IllegalStateException {
        Right lender = rightAt(right);
        requireRange(count, -MOST_COUNT, MOST_COUNT);
        requireCount(lender, count);
        if (lender.lent + count < 0) {
            throw new IllegalStateException("less is lent out than comes back");
        }
        lender.count -= count;
        lender.lent += count;
        return lender.lent;
    }

    public int pass(int days) throws IllegalArgumentException {
        requireRange(days, 1, MOST_DAYS);
        day += days;
        return day;
    }

    // ---- what there is

    public int today() {
        return day;
    }

    public int rights() {
        return held.size();
    }

    public int countOf(int right) throws IndexOutOfBoundsException {
        return rightAt(right).count;
    }

    public int versionOf(int right) throws IndexOutOfBoundsException {
        return rightAt(right).version;
    }

    public int latest(int product) throws IndexOutOfBoundsException {
        requireProduct(product);
        return latestVersions[product];
    }

    public int hostOf(int machine) throws IndexOutOfBoundsException {
        requireMachine(machine);
        return hosts[machine];
    }

    public int weight(int machine, int product) throws IndexOutOfBoundsException {
        requireMachine(machine);
        requireProduct(product);
        return weightOn(machine, product);
    }

    public int covers(int right, int machine) throws IndexOutOfBoundsException {
        Right laid = rightAt(right);
        requireMachine(machine);
        return coverOn(laid, machine, hosts);
    }

    // ---- gaps

    public int gap(int product) throws IndexOutOfBoundsException {
        requireProduct(product);
        return layings.weightOfSet(leastUncovered(product, hosts));
    }

    public int uncovered(int product) throws IndexOutOfBoundsException {
        requireProduct(product);
        return leastUncovered(product, hosts);
    }

    public int gapByAll(int product) throws IndexOutOfBoundsException, IllegalStateException {
        requireProduct(product);
        requireFewRights(product);
        startLayings(product);
        for (int i = 0; i < held.size(); i++) {
            Right right = held.get(i);
            if (right.product == product && right.count > 0) {
                takeUp(right, hosts);
                layings.layOnAllSets(right.count);
            }
        }
        return layings.weightOfSet(layings.leastUncoveredWithin(0));
    }

    public int gapIf(int product, int machine, int host)
            throws IndexOutOfBoundsException, IllegalArgumentException, IllegalStateException {
        requireProduct(product);
        requireMovable(machine, host);
        System.arraycopy(hosts, 0, supposedHosts, 0, MACHINES);
        supposedHosts[machine] = host;
        return layings.weightOfSet(leastUncovered(product, supposedHosts));
    }

    public int spare(int right) throws IndexOutOfBoundsException {
        Right last = rightAt(right);
        layAllBut(right, last.product, hosts);
        // Laid last and left open, it tells what it takes for each set: the least of that for the gap is needed.
        takeUp(last, hosts);
        layings.layOpen();
        int uncovered = layings.leastUncoveredWithin(last.count);
        return last.count - layings.leastTakenFor(layings.weightOfSet(uncovered));
    }

    // ---- what the calls require

    private static void requireMachine(int machine) {
        if (machine < 0 || machine >= MACHINES) {
            throw new IndexOutOfBoundsException("there is no such machine");
        }
    }

    private static void requireProduct(int product) {
        if (product < 0 || product >= PRODUCTS) {
            throw new IndexOutOfBoundsException("there is no such product");
        }
    }

    private static void requireRange(int value, int least, int most) {
        if (value < least || value > most) {
            throw new IllegalArgumentException("an argument is out of its range");
        }
    }

    private static void requireCount(Right right, int count) {
        if (right.count < count) {
            throw new IllegalStateException("the right has a lesser count");
        }
    }

    private void requireRoomForRight() {
        if (held.size() >= MOST_RIGHTS) {
            throw new IllegalStateException("there are as many rights as there can be");
        }
    }

    private void requireMovable(int machine, int host) {
        requireMachine(machine);
        if (host == NONE) {
            return;
        }
        requireMachine(host);
        if (machine == host) {
            throw new IllegalArgumentException("a machine is not its own host");
        }
        if (isHost(machine) || hosts[host] != NONE) {
            throw new IllegalStateException("a host has no host");
        }
    }

    private void requireFewRights(int product) {
        int usable = 0;
        for (int i = 0; i < held.size(); i++) {
            Right right = held.get(i);
            if (right.product == product && right.count > 0) {
                usable++;
            }
        }
        if (usable > MOST_RIGHTS_TRIED) {
            throw new IllegalStateException("the product has too many rights to try all sets");
        }
    }

    private Right rightAt(int right) {
        if (right < 0 || right >= held.size()) {
            throw new IndexOutOfBoundsException("there is no such right");
        }
        return held.get(right);
    }

    // ---- parts of the calls

    private boolean isHost(int machine) {
        for (int guest = 0; guest < MACHINES; guest++) {
            if (hosts[guest] == machine) {
                return true;
            }
        }
        return false;
    }

    private int addRight(int product, int measure, int count, int lastCareDay) {
        held.add(new Right(product, measure, count, latestVersions[product], lastCareDay));
        return held.size() - 1;
    }

    private int weightOn(int machine, int product) {
        return found[machine][product] > 0 ? cores[machine] * prices[product] : 0;
    }

    private int takenOn(Right right, int machine) {
        return right.measure == CORE ? Math.max(LEAST_CORES_TAKEN, cores[machine]) : 1;
    }

    private int coverOn(Right right, int machine, int[] hostRow) {
        int cover = 0;
        for (int m = 0; m < MACHINES; m++) {
            boolean reached = m == machine || right.measure == CORE && hostRow[m] == machine;
            int version = found[m][right.product];
            if (reached && version > 0 && version <= right.version) {
                cover |= 1 << m;
            }
        }
        return cover;
    }

    private int leastUncovered(int product, int[] hostRow) {
        layAllBut(NONE, product, hostRow);
        return layings.leastUncoveredWithin(0);
    }

    private void layAllBut(int leftOut, int product, int[] hostRow) {
        startLayings(product);
        for (int i = 0; i < held.size(); i++) {
            Right right = held.get(i);
            if (i != leftOut && right.product == product && right.count > 0) {
                takeUp(right, hostRow);
                layings.layOpen();
                layings.closeWithin(right.count);
            }
        }
    }

    private void startLayings(int product) {
        layings.clearAll();
        for (int machine = 0; machine < MACHINES; machine++) {
            layings.weigh(machine, found[machine][product] > 0, weightOn(machine, product));
        }
    }

    private void takeUp(Right right, int[] hostRow) {
        for (int machine = 0; machine < MACHINES; machine++) {
            layings.machineTakes[machine] = takenOn(right, machine);
            layings.machineCovers[machine] = coverOn(right, machine, hostRow);
        }
    }

    /** A right of a product. */
    private static final class Right {
        final int product;
        final int measure;
        final int lastCareDay;
        int version;
        int count;
        int lent = 0;

        Right(int product, int measure, int count, int version, int lastCareDay) {
            this.product = product;
            this.measure = measure;
            this.count = count;
            this.version = version;
            this.lastCareDay = lastCareDay;
        }
    }

    /** The layings of one product's rights, told by the sets that they cover; its rows serve every question. */
    private static final class Layings {
        /** What the right at hand takes on each machine, and what it covers from there. */
        final int[] machineTakes = new int[MACHINES];
        final int[] machineCovers = new int[MACHINES];
        private final int[] setWeights = new int[MACHINE_SETS];
        private int havers = 0;
        /** For each set the least that the right at hand takes so that just this set is covered. */
        private final int[] taken = new int[MACHINE_SETS];
        private final int[] takenNext = new int[MACHINE_SETS];
        /** For each set on which the right at hand can be laid what it covers then, or NONE. */
        private final int[] setCovers = new int[MACHINE_SETS];

        /** No machine has the product, and nothing is laid. */
        void clearAll() {
            havers = 0;
            Arrays.fill(taken, TOO_MUCH);
            taken[0] = 0;
        }

        /** Weighs the sets whose highest machine this is: those below it must have been weighed. */
        void weigh(int machine, boolean has, int weight) {
            int bit = 1 << machine;
            if (has) {
                havers |= bit;
            }
            for (int lower = 0; lower < bit && (bit | lower) < MACHINE_SETS; lower++) {
                setWeights[bit | lower] = setWeights[lower] + weight;
            }
        }

        /** Lays the right at hand in all ways, whatever its count is. */
        void layOpen() {
            for (int machine = 0; machine < MACHINES; machine++) {
                if (machineCovers[machine] != 0) {
                    layOrNot(machineCovers[machine], machineTakes[machine]);
                }
            }
        }

        private void layOrNot(int cover, int takes) {
            // A second laying on the same machine covers nothing more, so one row serves as old and new.
            for (int set = 0; set < MACHINE_SETS; set++) {
                int wider = (set | cover) & (MACHINE_SETS - 1);
                taken[wider] = Math.min(taken[wider], taken[set] + takes);
            }
        }

        /** Drops what takes more than the count; the next right finds the rest covered for nothing. */
        void closeWithin(int count) {
            for (int set = 0; set < MACHINE_SETS; set++) {
                taken[set] = taken[set] <= count ? 0 : TOO_MUCH;
            }
        }

        /** Lays the right at hand, set by set, on all sets of machines for which its count is enough. */
        void layOnAllSets(int count) {
            for (int set = 0; set < MACHINE_SETS; set++) {
                setCovers[set] = coverOfSet(set, count);
            }
            Arrays.fill(takenNext, TOO_MUCH);
            for (int covered = 0; covered < MACHINE_SETS; covered++) {
                if (taken[covered] == 0) {
                    addToAll(covered);
                }
            }
            System.arraycopy(takenNext, 0, taken, 0, MACHINE_SETS);
        }

        private int coverOfSet(int set, int count) {
            int takes = 0;
            int cover = 0;
            for (int machine = 0; machine < MACHINES; machine++) {
                if ((set & 1 << machine) != 0) {
                    takes += machineTakes[machine];
                    cover |= machineCovers[machine];
                }
            }
            return takes <= count ? cover : NONE;
        }

        private void addToAll(int covered) {
            for (int set = 0; set < MACHINE_SETS; set++) {
                if (setCovers[set] != NONE) {
                    takenNext[(covered | setCovers[set]) & (MACHINE_SETS - 1)] = 0;
                }
            }
        }

        /** The uncovered set of the least weight, and of several the least number. */
        int leastUncoveredWithin(int count) {
            int least = havers;
            for (int covered = 0; covered < MACHINE_SETS; covered++) {
                int set = havers & ~covered;
                if (taken[covered] <= count && isLess(set, least)) {
                    least = set;
                }
            }
            return least;
        }

        private boolean isLess(int set, int than) {
            int difference = weightOfSet(set) - weightOfSet(than);
            return difference < 0 || difference == 0 && set < than;
        }

        int leastTakenFor(int gap) {
            int least = TOO_MUCH;
            for (int covered = 0; covered < MACHINE_SETS; covered++) {
                if (weightOfSet(havers & ~covered) == gap) {
                    least = Math.min(least, taken[covered]);
                }
            }
            return least;
        }

        int weightOfSet(int set) {
            return setWeights[set & (MACHINE_SETS - 1)];
        }
    }
}
