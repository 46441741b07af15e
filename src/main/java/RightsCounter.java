import java.util.ArrayList;
import java.util.Arrays;

/** Counts what software may be run: what is needed on a day, what rights give for it, what is lacking and spare. */
public final class RightsCounter {
    public static final int NONE = -1;

    private static final int PRODUCTS = 5;
    private static final int ALL_PRODUCTS = (1 << PRODUCTS) - 1;
    private static final int MOST_VERSION = 9;
    private static final int MOST_RIGHTS = 10;
    private static final int MOST_UNITS = 100;
    private static final int MOST_MACHINES = 8;
    private static final int MOST_CORES = 64;
    private static final int MOST_CORES_OF_UNIT = 16;
    private static final int MOST_INSTALLS = 10;
    private static final int LAST_DAY = 720;
    private static final int DAYS_OF_MONTH = 30;
    private static final int LAST_MONTH = 23;
    private static final int MOST_NEEDS = MOST_MACHINES * PRODUCTS;
    private static final int MOST_NEEDS_BY_SETS = 10;

    private final ArrayList<Right> rightList = new ArrayList<Right>();
    private final ArrayList<Machine> machineList = new ArrayList<Machine>();
    private final int[] coresOfUnit = new int[PRODUCTS];
    private final Needs found = new Needs();
    private final Giving giving = new Giving();

    public RightsCounter() {
        Arrays.fill(coresOfUnit, 1);
    }

    // ---- rights

    public int addRight(int products, int version, int units, int first, int last)
            throws IllegalArgumentException, IllegalStateException {
        checkArgument(products, 1, ALL_PRODUCTS);
        checkArgument(version, 1, MOST_VERSION);
        checkArgument(units, 1, MOST_UNITS);
        checkArgument(first, 0, LAST_DAY);
        checkArgument(last, first, LAST_DAY);
        if (rightList.size() >= MOST_RIGHTS) {
            throw new IllegalStateException("there are 10 rights");
        }
        rightList.add(new Right(products, version, units, first, last));
        return rightList.size() - 1;
    }

    public int upgrade(int right, int version)
            throws IndexOutOfBoundsException, IllegalArgumentException, IllegalStateException {
        Right upgraded = rightOf(right);
        checkArgument(version, 1, MOST_VERSION);
        int before = upgraded.version;
        if (version <= before) {
            throw new IllegalStateException("the version is not above that of the right");
        }
        upgraded.version = version;
        return before;
    }

    public int setUnits(int right, int units) throws IndexOutOfBoundsException, IllegalArgumentException {
        Right changed = rightOf(right);
        checkArgument(units, 0, MOST_UNITS);
        int before = changed.units;
        changed.units = units;
        return before;
    }

    public int rights() {
        return rightList.size();
    }

    // ---- machines, products

    public int addMachine(int cores, int host)
            throws IndexOutOfBoundsException, IllegalArgumentException, IllegalStateException {
        Machine outer = host == NONE ? null : machineOf(host);
        checkArgument(cores, 1, MOST_CORES);
        if (machineList.size() >= MOST_MACHINES) {
            throw new IllegalStateException("there are 8 machines");
        }
        machineList.add(new Machine(machineList.size(), cores, outer));
        return machineList.size() - 1;
    }

    public int setCores(int machine, int cores) throws IndexOutOfBoundsException, IllegalArgumentException {
        Machine changed = machineOf(machine);
        checkArgument(cores, 1, MOST_CORES);
        int before = changed.cores;
        changed.cores = cores;
        return before;
    }

    public int tellApart(int machine, boolean is) throws IndexOutOfBoundsException {
        Machine told = machineOf(machine);
        told.isApart = is;
        return told.countsBy();
    }

    public int setCoresOfUnit(int product, int cores) throws IndexOutOfBoundsException, IllegalArgumentException {
        checkProduct(product);
        checkArgument(cores, 1, MOST_CORES_OF_UNIT);
        int before = coresOfUnit[product];
        coresOfUnit[product] = cores;
        return before;
    }

    public int machines() {
        return machineList.size();
    }

    // ---- what runs

    public int install(int machine, int product, int version, int day)
            throws IndexOutOfBoundsException, IllegalArgumentException, IllegalStateException {
        History history = historyOf(machine, product);
        checkArgument(version, 1, MOST_VERSION);
        checkDay(day);
        if (history.isFull() || history.lastChange() >= day) {
            throw new IllegalStateException("installed 10 times, or changed on this day or a later one");
        }
        history.begin(version, day);
        return history.installs;
    }

    public int uninstall(int machine, int product, int day)
            throws IndexOutOfBoundsException, IllegalArgumentException, IllegalStateException {
        History history = historyOf(machine, product);
        checkDay(day);
        if (!history.isOpen() || history.lastChange() >= day) {
            throw new IllegalStateException("not installed now, or installed on this day or a later one");
        }
        return history.end(day);
    }

    public int runs(int machine, int product, int day) throws IndexOutOfBoundsException, IllegalArgumentException {
        History history = historyOf(machine, product);
        checkDay(day);
        return history.versionOn(day);
    }

    // ---- needs of a day

    public int needs(int day) throws IllegalArgumentException {
        checkDay(day);
        findNeeds(day);
        return found.count;
    }

    public int need(int day, int need) throws IllegalArgumentException, IndexOutOfBoundsException {
        checkDay(day);
        findNeeds(day);
        checkNeed(need);
        return 100 * found.machines[need] + 10 * found.products[need] + found.versions[need];
    }

    public int demand(int day, int need) throws IllegalArgumentException, IndexOutOfBoundsException {
        checkDay(day);
        findNeeds(day);
        checkNeed(need);
        return found.demands[need];
    }

    public int gets(int day, int need) throws IllegalArgumentException, IndexOutOfBoundsException {
        checkDay(day);
        findNeeds(day);
        checkNeed(need);
        // Those behind it can take nothing from it, so they need not be served.
        serveFirst(need, day);
        return giving.serve(found.givers[need], found.demands[need]);
    }

    public int lack(int day) throws IllegalArgumentException {
        checkDay(day);
        findNeeds(day);
        return found.demandOfAll() - serveFirst(found.count, day);
    }

    public int lackBySets(int day) throws IllegalArgumentException, IllegalStateException {
        checkDay(day);
        findNeeds(day);
        if (found.count > MOST_NEEDS_BY_SETS) {
            throw new IllegalStateException("the day has more than 10 needs");
        }
        findGivers(day);
        int most = 0;
        for (int set = 0; set < 1 << found.count; set++) {
            most = Math.max(most, found.demandOfSet(set) - unitsOf(found.giversOfSet(set)));
        }
        return most;
    }

    public int spare(int day, int product, int version) throws IllegalArgumentException, IndexOutOfBoundsException {
        checkDay(day);
        checkArgument(version, 1, MOST_VERSION);
        checkProduct(product);
        findNeeds(day);
        serveFirst(found.count, day);
        return giving.serve(giversFor(product, version, day), MOST_RIGHTS * MOST_UNITS);
    }

    public int most(int product, int month) throws IndexOutOfBoundsException, IllegalArgumentException {
        checkProduct(product);
        checkArgument(month, 0, LAST_MONTH);
        int most = 0;
        for (int day = 0; day < DAYS_OF_MONTH; day++) {
            findNeeds(DAYS_OF_MONTH * month + day);
            most = Math.max(most, found.demandOfProduct(product));
        }
        return most;
    }

    // ---- what a call's arguments name

    private static void checkArgument(int value, int least, int greatest) {
        if (value < least || value > greatest) {
            throw new IllegalArgumentException("an argument is out of range");
        }
    }

    private static void checkDay(int day) {
        checkArgument(day, 0, LAST_DAY);
    }

    private static void checkProduct(int product) {
        if (product < 0 || product >= PRODUCTS) {
            throw new IndexOutOfBoundsException("there is no such product");
        }
    }

    private void checkNeed(int need) {
        if (need < 0 || need >= found.count) {
            throw new IndexOutOfBoundsException("there is no such need");
        }
    }

    private Right rightOf(int right) {
        if (right < 0 || right >= rightList.size()) {
            throw new IndexOutOfBoundsException("there is no such right");
        }
        return rightList.get(right);
    }

    private Machine machineOf(int machine) {
        if (machine < 0 || machine >= machineList.size()) {
            throw new IndexOutOfBoundsException("there is no such machine");
        }
        return machineList.get(machine);
    }

    private History historyOf(int machine, int product) {
        checkProduct(product);
        return machineOf(machine).histories[product];
    }

    // ---- the needs of a day, and the rights that can give for them

    private void findNeeds(int day) {
        found.clear();
        for (int number = 0; number < machineList.size(); number++) {
            Machine machine = machineList.get(number);
            int outer = machine.countsBy();
            for (int product = 0; product < PRODUCTS; product++) {
                found.raise(outer, product, machine.histories[product].versionOn(day));
            }
        }
        for (int number = 0; number < machineList.size(); number++) {
            int cores = machineList.get(number).cores;
            for (int product = 0; product < PRODUCTS; product++) {
                found.addIfRaised(number, product, unitsForCores(cores, coresOfUnit[product]));
            }
        }
    }

    private static int unitsForCores(int cores, int coresOfOne) {
        return coresOfOne < 1 ? 0 : (cores + coresOfOne - 1) / coresOfOne;
    }

    private void findGivers(int day) {
        for (int need = 0; need < found.count; need++) {
            found.givers[need] = giversFor(found.products[need], found.versions[need], day);
        }
    }

    /** The set of the rights that can give, each counting 2 to the power of its number. */
    private int giversFor(int product, int version, int day) {
        int givers = 0;
        for (int right = 0; right < rightList.size(); right++) {
            if (rightList.get(right).canGive(product, version, day)) {
                givers |= 1 << right;
            }
        }
        return givers;
    }

    private int unitsOf(int setOfRights) {
        int units = 0;
        for (int right = 0; right < rightList.size(); right++) {
            if ((setOfRights >> right & 1) != 0) {
                units += rightList.get(right).units;
            }
        }
        return units;
    }

    /** Serves the needs that were found, from the first one on; answers the units they get together. */
    private int serveFirst(int howMany, int day) {
        findGivers(day);
        giving.start();
        for (int right = 0; right < rightList.size(); right++) {
            giving.putUnits(right, rightList.get(right).units);
        }
        int units = 0;
        for (int need = 0; need < howMany && need < found.count; need++) {
            units += giving.serve(found.givers[need], found.demands[need]);
        }
        return units;
    }

    private static final class Right {
        final int products;
        final int first;
        final int last;
        int version;
        int units;

        Right(int products, int version, int units, int first, int last) {
            this.products = products;
            this.version = version;
            this.units = units;
            this.first = first;
            this.last = last;
        }

        boolean canGive(int product, int versionOfNeed, int day) {
            return (products >> product & 1) != 0 && versionOfNeed <= version && day >= first && day <= last;
        }
    }

    private static final class Machine {
        final int number;
        final Machine host;
        final History[] histories = new History[PRODUCTS];
        int cores;
        boolean isApart;

        Machine(int number, int cores, Machine host) {
            this.number = number;
            this.cores = cores;
            this.host = host;
            for (int product = 0; product < PRODUCTS; product++) {
                histories[product] = new History();
            }
        }

        int countsBy() {
            Machine counting = this;
            while (counting.host != null && !counting.isApart) {
                counting = counting.host;
            }
            return counting.number;
        }
    }

    /** When one product was installed on one machine, and uninstalled again. */
    private static final class History {
        // Later than every day that a call can name.
        private static final int OPEN = LAST_DAY + 1;

        final int[] versions = new int[MOST_INSTALLS];
        final int[] firstDays = new int[MOST_INSTALLS];
        final int[] endDays = new int[MOST_INSTALLS];
        int installs;

        boolean isFull() {
            return installs >= MOST_INSTALLS;
        }

        boolean isOpen() {
            return installs > 0 && endDays[installs - 1] == OPEN;
        }

        int lastChange() {
            if (installs == 0) {
                return NONE;
            }
            return isOpen() ? firstDays[installs - 1] : endDays[installs - 1];
        }

        void begin(int version, int day) {
            if (isFull()) {
                return;
            }
            versions[installs] = version;
            firstDays[installs] = day;
            endDays[installs] = OPEN;
            installs++;
        }

        int end(int day) {
            if (!isOpen()) {
                return 0;
            }
            endDays[installs - 1] = day;
            return versions[installs - 1];
        }

        int versionOn(int day) {
            for (int install = installs - 1; install >= 0; install--) {
                if (firstDays[install] <= day) {
                    return day < endDays[install] ? versions[install] : 0;
                }
            }
            return 0;
        }
    }

    /** The needs of the day that was looked at last. */
    private static final class Needs {
        final int[] machines = new int[MOST_NEEDS];
        final int[] products = new int[MOST_NEEDS];
        final int[] versions = new int[MOST_NEEDS];
        final int[] demands = new int[MOST_NEEDS];
        final int[] givers = new int[MOST_NEEDS];
        int count;
        private final int[] greatest = new int[MOST_NEEDS];

        void clear() {
            count = 0;
            Arrays.fill(greatest, 0);
        }

        void raise(int machine, int product, int version) {
            int place = machine * PRODUCTS + product;
            if (place >= 0 && place < MOST_NEEDS) {
                greatest[place] = Math.max(greatest[place], version);
            }
        }

        void addIfRaised(int machine, int product, int units) {
            int place = machine * PRODUCTS + product;
            if (place < 0 || place >= MOST_NEEDS || greatest[place] == 0 || count >= MOST_NEEDS) {
                return;
            }
            machines[count] = machine;
            products[count] = product;
            versions[count] = greatest[place];
            demands[count] = units;
            count++;
        }

        int demandOfAll() {
            int units = 0;
            for (int need = 0; need < count; need++) {
                units += demands[need];
            }
            return units;
        }

        int demandOfProduct(int product) {
            int units = 0;
            for (int need = 0; need < count; need++) {
                units += products[need] == product ? demands[need] : 0;
            }
            return units;
        }

        int demandOfSet(int set) {
            int units = 0;
            for (int need = 0; need < count; need++) {
                units += (set >> need & 1) != 0 ? demands[need] : 0;
            }
            return units;
        }

        int giversOfSet(int set) {
            int together = 0;
            for (int need = 0; need < count; need++) {
                together |= (set >> need & 1) != 0 ? givers[need] : 0;
            }
            return together;
        }
    }

    /** Units of rights, given to needs that come one after another. */
    private static final class Giving {
        // One more than a day can have: the one that spare asks for.
        private final int[][] given = new int[MOST_NEEDS + 1][MOST_RIGHTS];
        private final int[] givers = new int[MOST_NEEDS + 1];
        private final int[] unitsLeft = new int[MOST_RIGHTS];
        private int served;

        // What a search leaves: a right is reached from another one by a need that has units
        // of the other one and could take units of this one instead, or by the new need itself.
        private final int[] queue = new int[MOST_RIGHTS];
        private final int[] reachedFrom = new int[MOST_RIGHTS];
        private final int[] exchanger = new int[MOST_RIGHTS];
        private int queued;
        private int reached;

        void start() {
            served = 0;
        }

        void putUnits(int right, int units) {
            if (isRight(right)) {
                unitsLeft[right] = units;
            }
        }

        /** Gives all it can to one more need, and leaves to those ahead of it as much as they have. */
        int serve(int giversOfNeed, int wanted) {
            if (served >= givers.length) {
                return 0;
            }
            int need = served;
            served++;
            givers[need] = giversOfNeed;
            Arrays.fill(given[need], 0);
            int got = 0;
            // Each step gives a unit at least, so there are no more steps than units wanted.
            for (int step = 0; step < wanted && got < wanted; step++) {
                int right = searchUnitsLeft(need);
                if (right == NONE) {
                    break;
                }
                got += giveAlong(need, right, wanted - got);
            }
            return got;
        }

        /** The right, reached by the fewest exchanges, that has units left; NONE if there is none. */
        private int searchUnitsLeft(int need) {
            queued = 0;
            reached = 0;
            reach(givers[need], NONE, need);
            for (int next = 0; next < queued && next < MOST_RIGHTS; next++) {
                int right = queue[next];
                if (!isRight(right)) {
                    return NONE;
                }
                if (unitsLeft[right] > 0) {
                    return right;
                }
                for (int other = 0; other < need; other++) {
                    if (given[other][right] > 0) {
                        reach(givers[other], right, other);
                    }
                }
            }
            return NONE;
        }

        private void reach(int rights, int from, int byNeed) {
            for (int right = 0; right < MOST_RIGHTS && queued < MOST_RIGHTS; right++) {
                if (((rights & ~reached) >> right & 1) != 0) {
                    reached |= 1 << right;
                    reachedFrom[right] = from;
                    exchanger[right] = byNeed;
                    queue[queued] = right;
                    queued++;
                }
            }
        }

        /** Gives units of the last right that was reached, by the exchanges on the way to it. */
        private int giveAlong(int need, int lastRight, int wanted) {
            if (!isRight(lastRight)) {
                return 0;
            }
            int units = Math.min(wanted, unitsLeft[lastRight]);
            int right = lastRight;
            for (int hop = 0; hop < MOST_RIGHTS && isExchanged(right); hop++) {
                units = Math.min(units, given[exchanger[right]][reachedFrom[right]]);
                right = reachedFrom[right];
            }
            unitsLeft[lastRight] -= units;
            right = lastRight;
            for (int hop = 0; hop < MOST_RIGHTS && isExchanged(right); hop++) {
                given[exchanger[right]][right] += units;
                given[exchanger[right]][reachedFrom[right]] -= units;
                right = reachedFrom[right];
            }
            given[need][right] += units;
            return units;
        }

        /** Whether a right was reached from another one; else it was reached from the new need itself. */
        private boolean isExchanged(int right) {
            return isRight(reachedFrom[right]) && exchanger[right] >= 0 && exchanger[right] < served;
        }

        private static boolean isRight(int right) {
            return right >= 0 && right < MOST_RIGHTS;
        }
    }
}
