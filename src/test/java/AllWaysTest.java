import java.util.Arrays;
import java.util.Random;

/** Promises 17 to 20: what needs get, of all ways to give units of rights, on small days where all can be tried. */
public final class AllWaysTest {
    private static final int RUNS = 2000;
    private static final int DAY = 5;
    private static final int MOST_NEEDS = 3;
    private static final int PRODUCTS = 3;

    private final Random random;
    private final RightsCounter counter = new RightsCounter();
    private final int rights;
    private final int[] products;
    private final int[] versions;
    private final int[] units;
    private int needs = 0;

    // What is tried: the needs and one more behind them, with no end to its demand.
    private final int[] demands = new int[MOST_NEEDS + 1];
    private final boolean[][] canGive;
    private final int[] gets = new int[MOST_NEEDS + 1];
    private int[] best = new int[MOST_NEEDS + 1];

    private AllWaysTest(int seed) {
        random = new Random(seed);
        rights = 1 + random.nextInt(3);
        products = new int[rights];
        versions = new int[rights];
        units = new int[rights];
        canGive = new boolean[MOST_NEEDS + 1][rights];
    }

    public static void main(String[] args) {
        for (int seed = 0; seed < RUNS; seed++) {
            Check.about("run " + seed);
            new AllWaysTest(seed).run();
        }
        Check.end();
    }

    private void run() {
        for (int right = 0; right < rights; right++) {
            addRight(right);
        }
        for (int machine = 0; machine < 2; machine++) {
            addMachine(machine);
        }
        int product = random.nextInt(PRODUCTS);
        int version = 1 + random.nextInt(3);
        put(needs, product, version, Integer.MAX_VALUE);
        tryAll(0, units.clone());
        int lack = 0;
        for (int need = 0; need < needs; need++) {
            int n = need;
            Check.due("gets " + n, best[n], () -> counter.gets(DAY, n));
            lack += demands[n] - best[n];
        }
        Check.due("lack", lack, () -> counter.lack(DAY));
        Check.due("lackBySets", lack, () -> counter.lackBySets(DAY));
        Check.due("spare", best[needs], () -> counter.spare(DAY, product, version));
    }

    private void addRight(int right) {
        products[right] = 1 + random.nextInt((1 << PRODUCTS) - 1);
        versions[right] = 1 + random.nextInt(3);
        units[right] = 1 + random.nextInt(3);
        int first = random.nextInt(DAY + 2);
        int last = first + random.nextInt(DAY + 2);
        counter.addRight(products[right], versions[right], units[right], first, last);
        if (DAY < first || DAY > last) {
            products[right] = 0;
        }
    }

    private void addMachine(int machine) {
        int cores = 1 + random.nextInt(3);
        counter.addMachine(cores, RightsCounter.NONE);
        for (int product = 0; product < PRODUCTS; product++) {
            if (needs < MOST_NEEDS && random.nextInt(3) > 0) {
                int version = 1 + random.nextInt(3);
                counter.install(machine, product, version, random.nextInt(DAY + 1));
                put(needs, product, version, cores);
                needs++;
            }
        }
    }

    private void put(int need, int product, int version, int demand) {
        demands[need] = demand;
        for (int right = 0; right < rights; right++) {
            canGive[need][right] = (products[right] >> product & 1) != 0 && version <= versions[right];
        }
    }

    /** Every way to give; the best is that with the most for the first need, of those for the second, and so on. */
    private void tryAll(int place, int[] left) {
        int need = place / rights;
        int right = place % rights;
        if (need > needs) {
            best = Arrays.compare(gets, best) > 0 ? gets.clone() : best;
            return;
        }
        int most = canGive[need][right] ? Math.min(left[right], demands[need] - gets[need]) : 0;
        for (int given = 0; given <= most; given++) {
            gets[need] += given;
            left[right] -= given;
            tryAll(place + 1, left);
            gets[need] -= given;
            left[right] += given;
        }
    }
}
