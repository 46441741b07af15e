import java.util.ArrayList;
import java.util.List;

/**
 * The document once more, in the slowest words: events are told again from the first one, and what needs get
 * is the difference of two least cuts over all sets of rights, with no exchange at all.
 * Every call answers a number, or the class of the exception that is due.
 */
final class Model {
    private record Right(int products, int version, int units, int first, int last) {
    }

    private record Event(int machine, int product, int version, int day) {
    }

    private record Need(int machine, int product, int version, int units) {
    }

    private final List<Right> rights = new ArrayList<>();
    private final List<Integer> cores = new ArrayList<>();
    private final List<Integer> hosts = new ArrayList<>();
    private final List<Boolean> apart = new ArrayList<>();
    private final List<Event> events = new ArrayList<>();
    private final int[] coresOfUnit = {1, 1, 1, 1, 1};

    private static boolean in(int value, int least, int greatest) {
        return least <= value && value <= greatest;
    }

    private boolean isMachine(int machine) {
        return in(machine, 0, cores.size() - 1);
    }

    private boolean isRight(int right) {
        return in(right, 0, rights.size() - 1);
    }

    /** The call of this name; which arguments it takes is the document's. */
    Object answer(String name, int[] a) {
        return switch (name) {
            case "addRight" -> addRight(a[0], a[1], a[2], a[3], a[4]);
            case "upgrade" -> upgrade(a[0], a[1]);
            case "setUnits" -> setUnits(a[0], a[1]);
            case "rights" -> rights.size();
            case "addMachine" -> addMachine(a[0], a[1]);
            case "setCores" -> setCores(a[0], a[1]);
            case "tellApart" -> tellApart(a[0], a[1] == 1);
            case "setCoresOfUnit" -> setCoresOfUnit(a[0], a[1]);
            case "machines" -> cores.size();
            case "install" -> install(a[0], a[1], a[2], a[3]);
            case "uninstall" -> uninstall(a[0], a[1], a[2]);
            case "runs" -> runsOrRefuses(a[0], a[1], a[2]);
            case "needs" -> in(a[0], 0, 720) ? (Object) needsOn(a[0]).size() : Check.ARGUMENT;
            case "need", "demand", "gets" -> ofNeed(name, a[0], a[1]);
            case "lack" -> in(a[0], 0, 720) ? (Object) lack(a[0]) : Check.ARGUMENT;
            case "lackBySets" -> lackBySets(a[0]);
            case "spare" -> spare(a[0], a[1], a[2]);
            case "most" -> most(a[0], a[1]);
            default -> throw new AssertionError(name);
        };
    }

    private Object addRight(int products, int version, int units, int first, int last) {
        if (!in(products, 1, 31) || !in(version, 1, 9) || !in(units, 1, 100) || !in(first, 0, 720)
                || !in(last, first, 720)) {
            return Check.ARGUMENT;
        }
        if (rights.size() == 10) {
            return Check.STATE;
        }
        rights.add(new Right(products, version, units, first, last));
        return rights.size() - 1;
    }

    private Object upgrade(int right, int version) {
        if (!isRight(right)) {
            return Check.OUT_OF_BOUNDS;
        }
        if (!in(version, 1, 9)) {
            return Check.ARGUMENT;
        }
        Right r = rights.get(right);
        if (version <= r.version) {
            return Check.STATE;
        }
        rights.set(right, new Right(r.products, version, r.units, r.first, r.last));
        return r.version;
    }

    private Object setUnits(int right, int units) {
        if (!isRight(right)) {
            return Check.OUT_OF_BOUNDS;
        }
        if (!in(units, 0, 100)) {
            return Check.ARGUMENT;
        }
        Right r = rights.get(right);
        rights.set(right, new Right(r.products, r.version, units, r.first, r.last));
        return r.units;
    }

    private Object addMachine(int itsCores, int host) {
        if (host != -1 && !isMachine(host)) {
            return Check.OUT_OF_BOUNDS;
        }
        if (!in(itsCores, 1, 64)) {
            return Check.ARGUMENT;
        }
        if (cores.size() == 8) {
            return Check.STATE;
        }
        cores.add(itsCores);
        hosts.add(host);
        apart.add(false);
        return cores.size() - 1;
    }

    private Object setCores(int machine, int itsCores) {
        if (!isMachine(machine)) {
            return Check.OUT_OF_BOUNDS;
        }
        return in(itsCores, 1, 64) ? cores.set(machine, itsCores) : Check.ARGUMENT;
    }

    private Object tellApart(int machine, boolean is) {
        if (!isMachine(machine)) {
            return Check.OUT_OF_BOUNDS;
        }
        apart.set(machine, is);
        return countsBy(machine);
    }

    private int countsBy(int machine) {
        return hosts.get(machine) == -1 || apart.get(machine) ? machine : countsBy(hosts.get(machine));
    }

    private Object setCoresOfUnit(int product, int ofUnit) {
        if (!in(product, 0, 4)) {
            return Check.OUT_OF_BOUNDS;
        }
        if (!in(ofUnit, 1, 16)) {
            return Check.ARGUMENT;
        }
        int before = coresOfUnit[product];
        coresOfUnit[product] = ofUnit;
        return before;
    }

    /** What was done with a product on a machine, in order; an end has the version 0. */
    private List<Event> eventsOf(int machine, int product) {
        return events.stream().filter(e -> e.machine == machine && e.product == product).toList();
    }

    private Object install(int machine, int product, int version, int day) {
        if (!isMachine(machine) || !in(product, 0, 4)) {
            return Check.OUT_OF_BOUNDS;
        }
        if (!in(version, 1, 9) || !in(day, 0, 720)) {
            return Check.ARGUMENT;
        }
        List<Event> past = eventsOf(machine, product);
        int times = (int) past.stream().filter(e -> e.version > 0).count();
        if (times >= 10 || past.stream().anyMatch(e -> e.day >= day)) {
            return Check.STATE;
        }
        events.add(new Event(machine, product, version, day));
        return times + 1;
    }

    private Object uninstall(int machine, int product, int day) {
        if (!isMachine(machine) || !in(product, 0, 4)) {
            return Check.OUT_OF_BOUNDS;
        }
        if (!in(day, 0, 720)) {
            return Check.ARGUMENT;
        }
        List<Event> past = eventsOf(machine, product);
        if (past.isEmpty() || past.get(past.size() - 1).version == 0 || past.get(past.size() - 1).day >= day) {
            return Check.STATE;
        }
        events.add(new Event(machine, product, 0, day));
        return past.get(past.size() - 1).version;
    }

    private int versionOn(int machine, int product, int day) {
        int version = 0;
        for (Event e : eventsOf(machine, product)) {
            version = e.day <= day ? e.version : version;
        }
        return version;
    }

    private Object runsOrRefuses(int machine, int product, int day) {
        if (!isMachine(machine) || !in(product, 0, 4)) {
            return Check.OUT_OF_BOUNDS;
        }
        return in(day, 0, 720) ? (Object) versionOn(machine, product, day) : Check.ARGUMENT;
    }

    private List<Need> needsOn(int day) {
        List<Need> needs = new ArrayList<>();
        for (int machine = 0; machine < cores.size(); machine++) {
            for (int product = 0; product < 5; product++) {
                int greatest = 0;
                for (int inner = 0; inner < cores.size(); inner++) {
                    if (countsBy(inner) == machine) {
                        greatest = Math.max(greatest, versionOn(inner, product, day));
                    }
                }
                if (greatest > 0) {
                    int units = 0;
                    while (units * coresOfUnit[product] < cores.get(machine)) {
                        units++;
                    }
                    needs.add(new Need(machine, product, greatest, units));
                }
            }
        }
        return needs;
    }

    private boolean canGive(Right right, Need need, int day) {
        return (right.products & (1 << need.product)) != 0 && need.version <= right.version
                && in(day, right.first, right.last);
    }

    /** The most units that these needs can get together. */
    private int greatestFlow(List<Need> needs, int day) {
        int least = Integer.MAX_VALUE;
        for (int set = 0; set < 1 << rights.size(); set++) {
            int cut = 0;
            for (int right = 0; right < rights.size(); right++) {
                cut += (set & (1 << right)) != 0 ? rights.get(right).units : 0;
            }
            for (Need need : needs) {
                boolean within = true;
                for (int right = 0; right < rights.size(); right++) {
                    within &= (set & (1 << right)) != 0 || !canGive(rights.get(right), need, day);
                }
                cut += within ? 0 : need.units;
            }
            least = Math.min(least, cut);
        }
        return least;
    }

    private Object ofNeed(String name, int day, int need) {
        if (!in(day, 0, 720)) {
            return Check.ARGUMENT;
        }
        List<Need> needs = needsOn(day);
        if (!in(need, 0, needs.size() - 1)) {
            return Check.OUT_OF_BOUNDS;
        }
        Need n = needs.get(need);
        if (name.equals("need")) {
            return 100 * n.machine + 10 * n.product + n.version;
        }
        if (name.equals("demand")) {
            return n.units;
        }
        return greatestFlow(needs.subList(0, need + 1), day) - greatestFlow(needs.subList(0, need), day);
    }

    private int lack(int day) {
        List<Need> needs = needsOn(day);
        return needs.stream().mapToInt(Need::units).sum() - greatestFlow(needs, day);
    }

    private Object lackBySets(int day) {
        if (!in(day, 0, 720)) {
            return Check.ARGUMENT;
        }
        return needsOn(day).size() > 10 ? Check.STATE : (Object) lack(day);
    }

    private Object spare(int day, int product, int version) {
        if (!in(day, 0, 720) || !in(version, 1, 9)) {
            return Check.ARGUMENT;
        }
        if (!in(product, 0, 4)) {
            return Check.OUT_OF_BOUNDS;
        }
        List<Need> needs = needsOn(day);
        int without = greatestFlow(needs, day);
        needs.add(new Need(8, product, version, 100000));
        return greatestFlow(needs, day) - without;
    }

    private Object most(int product, int month) {
        if (!in(product, 0, 4)) {
            return Check.OUT_OF_BOUNDS;
        }
        if (!in(month, 0, 23)) {
            return Check.ARGUMENT;
        }
        int most = 0;
        for (int day = 30 * month; day < 30 * month + 30; day++) {
            int sum = needsOn(day).stream().filter(n -> n.product == product).mapToInt(Need::units).sum();
            most = Math.max(most, sum);
        }
        return most;
    }
}
