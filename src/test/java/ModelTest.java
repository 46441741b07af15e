import java.util.Arrays;
import java.util.Random;

/** All promises: long runs of calls, right and wrong ones, answered as the model answers. */
public final class ModelTest {
    private static final int RUNS = 150;
    private static final int CALLS = 512;
    private static final String[] CHANGES = {
        "addRight", "addRight", "upgrade", "setUnits", "addMachine", "addMachine", "setCores", "tellApart",
        "setCoresOfUnit", "install", "install", "install", "install", "install", "install", "uninstall", "uninstall",
    };
    private static final String[] QUESTIONS = {
        "rights", "machines", "runs", "needs", "need", "demand", "gets", "gets", "gets", "lack", "lack",
        "lackBySets", "lackBySets", "spare", "spare", "spare", "most",
    };
    private static final int[] STRANGE = {
        -1, -2, -100, 0, 1, 8, 9, 10, 31, 32, 64, 65, 100, 101, 720, 721, Integer.MIN_VALUE, Integer.MAX_VALUE,
    };

    private final Random random;
    private final RightsCounter counter = new RightsCounter();
    private final Model model = new Model();
    // Small runs stay below the bounds, where most of the ten needs of lackBySets are met.
    private final int machines;
    private final int products;
    private int today = 0;

    private ModelTest(int seed) {
        random = new Random(seed);
        machines = seed % 3 == 0 ? 8 : 2 + seed % 4;
        products = seed % 3 == 0 ? 5 : 2 + seed % 3;
    }

    public static void main(String[] args) {
        for (int seed = 0; seed < RUNS; seed++) {
            new ModelTest(seed).run(seed);
        }
        Check.end();
    }

    private void run(int seed) {
        for (int call = 0; call < CALLS; call++) {
            boolean change = random.nextInt(100) < (call < 100 ? 80 : 25);
            String[] names = change ? CHANGES : QUESTIONS;
            String name = names[random.nextInt(names.length)];
            int[] a = arguments(name);
            if (random.nextInt(12) == 0 && a.length > 0) {
                int place = random.nextInt(a.length);
                a[place] = name.equals("tellApart") && place == 1 ? 1 : STRANGE[random.nextInt(STRANGE.length)];
            }
            Object want = model.answer(name, a);
            String what = "run " + seed + ", call " + call + ": " + name + " " + Arrays.toString(a);
            if (want instanceof Class<?> exception) {
                Check.refuses(what, exception, () -> ask(name, a));
            } else {
                Check.due(what, (Integer) want, () -> ask(name, a));
            }
        }
    }

    private int from(int least, int greatest) {
        return least + random.nextInt(greatest - least + 1);
    }

    private int machine() {
        return from(0, machines - 1);
    }

    private int product() {
        return from(0, products - 1);
    }

    private int anyDay() {
        return Math.max(0, Math.min(720, random.nextInt(10) == 0 ? from(0, 720) : today - from(-3, 20)));
    }

    private int[] arguments(String name) {
        return switch (name) {
            case "addRight" -> newRight();
            case "upgrade" -> new int[] {from(0, 9), from(1, 9)};
            case "setUnits" -> new int[] {from(0, 9), random.nextInt(4) == 0 ? 0 : from(0, 60)};
            case "addMachine" -> newMachine();
            case "setCores" -> new int[] {machine(), from(1, 64)};
            case "tellApart" -> new int[] {machine(), from(0, 1)};
            case "setCoresOfUnit" -> new int[] {product(), from(1, 16)};
            case "install" -> new int[] {machine(), product(), from(1, 9), laterDay()};
            case "uninstall" -> new int[] {machine(), product(), laterDay()};
            case "runs" -> new int[] {machine(), product(), anyDay()};
            case "needs", "lack", "lackBySets" -> new int[] {anyDay()};
            case "need", "demand", "gets" -> needOfDay(anyDay());
            case "spare" -> new int[] {anyDay(), product(), from(1, 9)};
            case "most" -> new int[] {product(), Math.min(23, anyDay() / 30)};
            default -> new int[0];
        };
    }

    private int[] newMachine() {
        return new int[] {from(1, 40), modelSays("machines") >= machines ? -2 : from(-1, machines - 2)};
    }

    private int[] newRight() {
        int first = random.nextBoolean() ? 0 : from(0, 300);
        int last = random.nextBoolean() ? 720 : Math.min(720, first + from(0, 200));
        return new int[] {from(1, (1 << products) - 1), from(3, 9), from(1, 40), first, last};
    }

    private int laterDay() {
        today = Math.min(720, today + random.nextInt(4));
        return Math.max(0, today - (random.nextInt(6) == 0 ? random.nextInt(10) : 0));
    }

    private int[] needOfDay(int day) {
        return new int[] {day, random.nextInt(modelSays("needs", day) + 1)};
    }

    /** The counter itself is not asked between the calls: it is promised for no more than these. */
    private int modelSays(String name, int... a) {
        return (Integer) model.answer(name, a);
    }

    private int ask(String name, int[] a) {
        return switch (name) {
            case "addRight" -> counter.addRight(a[0], a[1], a[2], a[3], a[4]);
            case "upgrade" -> counter.upgrade(a[0], a[1]);
            case "setUnits" -> counter.setUnits(a[0], a[1]);
            case "rights" -> counter.rights();
            case "addMachine" -> counter.addMachine(a[0], a[1]);
            case "setCores" -> counter.setCores(a[0], a[1]);
            case "tellApart" -> counter.tellApart(a[0], a[1] == 1);
            case "setCoresOfUnit" -> counter.setCoresOfUnit(a[0], a[1]);
            case "machines" -> counter.machines();
            case "install" -> counter.install(a[0], a[1], a[2], a[3]);
            case "uninstall" -> counter.uninstall(a[0], a[1], a[2]);
            case "runs" -> counter.runs(a[0], a[1], a[2]);
            case "needs" -> counter.needs(a[0]);
            case "need" -> counter.need(a[0], a[1]);
            case "demand" -> counter.demand(a[0], a[1]);
            case "gets" -> counter.gets(a[0], a[1]);
            case "lack" -> counter.lack(a[0]);
            case "lackBySets" -> counter.lackBySets(a[0]);
            case "spare" -> counter.spare(a[0], a[1], a[2]);
            case "most" -> counter.most(a[0], a[1]);
            default -> throw new AssertionError(name);
        };
    }
}
