import java.util.List;

/** Promises 6 to 10, a sentence each. */
final class MachineEdges {
    private static final int NONE = Scenes.NONE;
    private static final List<Scenes.Scene> ALL_SCENES = List.of(Scenes::empty, Scenes::some, Scenes::full);

    private MachineEdges() {
    }

    static void run() {
        addMachine();
        addMachineRefuses();
        setCores();
        setCoresRefuses();
        tellApart();
        tellApartRefuses();
        setCoresOfUnit();
        setCoresOfUnitRefuses();
        Edges.test("10", "Returns how many machines there are.", MachineEdges::machinesAreCounted);
    }

    private static void addMachine() {
        Edges.test("6", "Adds a machine.", () -> {
            RightsCounter x = new RightsCounter();
            for (int machine = 0; machine < 8; machine++) {
                int m = machine;
                Check.due("machines, " + m, m, () -> x.machines());
                Check.refuses("nothing installs on " + m, Check.OUT_OF_BOUNDS, () -> x.install(m, 0, 1, 0));
                x.addMachine(m + 1, NONE);
                Check.due("nothing runs on " + m, 0, () -> x.runs(m, 0, 720));
                Check.due("cores of " + m, m + 1, () -> x.setCores(m, 1));
            }
            Check.due("machines, eight", 8, () -> x.machines());
        });
        Edges.test("6", "`cores`: 1 to 64", () -> {
            for (int cores : new int[] {1, 2, 63, 64}) {
                RightsCounter x = new RightsCounter();
                Check.due(cores + " are taken", 0, () -> x.addMachine(cores, NONE));
                x.install(0, 0, 1, 0);
                Check.due(cores + " are counted", cores, () -> x.demand(0, 0));
            }
        });
        Edges.test("6", "`host`: a machine, or NONE", () -> {
            RightsCounter x = new RightsCounter();
            Check.due("none, for the first", 0, () -> x.addMachine(1, NONE));
            Check.due("the first", 1, () -> x.addMachine(1, 0));
            Check.due("the last that there is", 2, () -> x.addMachine(1, 1));
            Check.due("none, with others there", 3, () -> x.addMachine(1, NONE));
            Check.due("the first, which has one within it", 4, () -> x.addMachine(1, 0));
            int[] countsBy = {0, 0, 0, 3, 0};
            for (int machine = 0; machine < countsBy.length; machine++) {
                int m = machine;
                Check.due("machine " + m + " counts by", countsBy[m], () -> x.tellApart(m, false));
            }
        });
        Edges.test("6", "Returns its number.", () -> {
            RightsCounter x = new RightsCounter();
            for (int machine = 0; machine < 8; machine++) {
                int m = machine;
                Check.refuses("a refused one", Check.ARGUMENT, () -> x.addMachine(0, NONE));
                Check.due("machine " + m, m, () -> x.addMachine(1, m % 2 == 0 ? NONE : m - 1));
            }
        });
    }

    private static void addMachineRefuses() {
        Edges.test("6", "Throws `IndexOutOfBoundsException` if host is neither", () -> {
            for (int host : new int[] {-2, 0, 1, Integer.MIN_VALUE, Integer.MAX_VALUE}) {
                Edges.refused("none, " + host, Check.OUT_OF_BOUNDS, Scenes::empty, x -> x.addMachine(1, host));
            }
            for (int host : Edges.outside(NONE, 3)) {
                Edges.refused("four, " + host, Check.OUT_OF_BOUNDS, Scenes::some, x -> x.addMachine(1, host));
            }
            for (int host : Edges.outside(NONE, 7)) {
                Edges.refused("eight, " + host, Check.OUT_OF_BOUNDS, Scenes::full, x -> x.addMachine(1, host));
            }
        });
        Edges.test("6", "Throws `IllegalArgumentException` if cores is out of range", () -> {
            for (int cores : Edges.outside(1, 64)) {
                for (Scenes.Scene scene : ALL_SCENES) {
                    Edges.refused("cores " + cores, Check.ARGUMENT, scene, x -> x.addMachine(cores, NONE));
                }
                Edges.refused("cores " + cores + ", a host", Check.ARGUMENT, Scenes::some,
                        x -> x.addMachine(cores, 3));
            }
        });
        Edges.test("6", "Throws `IllegalStateException` if there are 8 machines", () -> {
            RightsCounter x = Scenes.withMachines(7);
            Check.due("seven and one", 7, () -> x.addMachine(1, NONE));
            Check.refuses("eight and one", Check.STATE, () -> x.addMachine(1, NONE));
            Check.due("eight stay", 8, () -> x.machines());
            Edges.refused("eight, no host", Check.STATE, Scenes::full, y -> y.addMachine(1, NONE));
            Edges.refused("eight, the first as host", Check.STATE, Scenes::full, y -> y.addMachine(64, 0));
            Edges.refused("eight, the last as host", Check.STATE, Scenes::full, y -> y.addMachine(64, 7));
        });
    }

    private static void setCores() {
        Edges.test("7", "Gives a machine other cores, on all days.", () -> {
            RightsCounter x = Scenes.withCores(10);
            x.setCores(0, 11);
            for (int day : new int[] {0, 1, 360, 719, 720}) {
                Check.due("day " + day, 11, () -> x.demand(day, 0));
            }
            Check.due("the first month", 11, () -> x.most(0, 0));
            Check.due("the last month", 11, () -> x.most(0, 23));
        });
        Edges.test("7", "`machine`: a machine", () -> {
            for (int machine : new int[] {0, 7}) {
                RightsCounter x = Scenes.withCores(1, 1, 1, 1, 1, 1, 1, 1);
                Check.due("machine " + machine, 1, () -> x.setCores(machine, 9));
                Check.due("no other one", 7 + 9, () -> x.most(0, 0));
                Check.due("it alone", 9, () -> x.demand(0, machine));
            }
        });
        Edges.test("7", "`cores`: 1 to 64", () -> {
            for (int cores : new int[] {1, 2, 63, 64}) {
                RightsCounter x = Scenes.withCores(30);
                Check.due(cores + " are taken", 30, () -> x.setCores(0, cores));
                Check.due(cores + " are counted", cores, () -> x.demand(0, 0));
            }
        });
        Edges.test("7", "Returns the cores before.", () -> {
            RightsCounter x = Scenes.withMachines(1);
            int before = 1;
            for (int cores : new int[] {64, 1, 1, 2, 64, 64, 30}) {
                int b = before;
                Check.due("to " + cores, b, () -> x.setCores(0, cores));
                before = cores;
            }
        });
    }

    private static void setCoresRefuses() {
        Edges.test("7", "Throws `IndexOutOfBoundsException` if there is no such machine",
                () -> noSuchMachine((x, machine) -> x.setCores(machine, 30)));
        Edges.test("7", "Throws `IllegalArgumentException` if cores is out of range", () -> {
            for (int cores : Edges.outside(1, 64)) {
                Edges.refused("cores " + cores, Check.ARGUMENT, Scenes::some, x -> x.setCores(0, cores));
                Edges.refused("the last, " + cores, Check.ARGUMENT, Scenes::full, x -> x.setCores(7, cores));
            }
        });
    }

    interface OfMachine {
        int on(RightsCounter x, int machine);
    }

    static void noSuchMachine(OfMachine call) {
        for (int machine : new int[] {-1, 0, Integer.MIN_VALUE, Integer.MAX_VALUE}) {
            Edges.refused("none, " + machine, Check.OUT_OF_BOUNDS, Scenes::empty, x -> call.on(x, machine));
        }
        for (int machine : Edges.outside(0, 3)) {
            Edges.refused("four, " + machine, Check.OUT_OF_BOUNDS, Scenes::some, x -> call.on(x, machine));
        }
        for (int machine : Edges.outside(0, 7)) {
            Edges.refused("eight, " + machine, Check.OUT_OF_BOUNDS, Scenes::full, x -> call.on(x, machine));
        }
    }

    /** Eight machines, each within the one ahead of it; product 0 runs on the innermost in the version 5. */
    private static RightsCounter chain() {
        RightsCounter x = new RightsCounter();
        for (int machine = 0; machine < 8; machine++) {
            x.addMachine(machine + 1, machine - 1);
        }
        x.install(7, 0, 5, 0);
        return x;
    }

    private static void tellApart() {
        Edges.test("8", "Tells a machine apart from its host, or takes that back, on all days.", () -> {
            RightsCounter x = chain();
            for (int day : new int[] {0, 360, 720}) {
                Check.due("at first, day " + day, 5, () -> x.need(day, 0));
            }
            x.tellApart(7, true);
            for (int day : new int[] {0, 360, 720}) {
                Check.due("told apart, day " + day, 705, () -> x.need(day, 0));
                Check.due("its cores, day " + day, 8, () -> x.demand(day, 0));
            }
            Check.due("in the last month", 8, () -> x.most(0, 23));
            x.tellApart(7, false);
            for (int day : new int[] {0, 360, 720}) {
                Check.due("taken back, day " + day, 5, () -> x.need(day, 0));
                Check.due("the outermost's cores, day " + day, 1, () -> x.demand(day, 0));
            }
        });
        Edges.test("8", "`machine`: a machine", () -> {
            RightsCounter x = chain();
            Check.due("the first, without a host", 0, () -> x.tellApart(0, true));
            Check.due("the last", 7, () -> x.tellApart(7, true));
            Check.due("the first, taken back", 0, () -> x.tellApart(0, false));
            Check.due("the last is apart still", 705, () -> x.need(0, 0));
            Check.due("the last, taken back", 0, () -> x.tellApart(7, false));
        });
        Edges.test("8", "`is`: whether it is told apart", () -> {
            RightsCounter x = chain();
            boolean[] told = {false, true, true, false, false, true};
            for (boolean is : told) {
                Check.due("told " + is, is ? 7 : 0, () -> x.tellApart(7, is));
            }
        });
        Edges.test("8", "Returns the machine by which it counts then.", () -> {
            RightsCounter x = chain();
            for (int machine = 0; machine < 8; machine++) {
                int m = machine;
                Check.due("by the outermost, " + m, 0, () -> x.tellApart(m, false));
            }
            Check.due("machine 4 for itself", 4, () -> x.tellApart(4, true));
            for (int machine = 0; machine < 8; machine++) {
                int m = machine;
                Check.due("with 4 told apart, " + m, m < 4 ? 0 : 4, () -> x.tellApart(m, m == 4));
            }
            for (int machine = 1; machine < 8; machine++) {
                int m = machine;
                Check.due("each for itself, " + m, m, () -> x.tellApart(m, true));
            }
            Check.due("by the one next to it", 6, () -> x.tellApart(7, false));
        });
    }

    private static void tellApartRefuses() {
        Edges.test("8", "Throws `IndexOutOfBoundsException` if there is no such machine", () -> {
            noSuchMachine((x, machine) -> x.tellApart(machine, true));
            noSuchMachine((x, machine) -> x.tellApart(machine, false));
        });
    }

    private static void setCoresOfUnit() {
        Edges.test("9", "Sets the number of cores that one unit of a product is for.", () -> {
            RightsCounter x = Scenes.withCores(16);
            for (int cores = 1; cores <= 16; cores++) {
                x.setCoresOfUnit(0, cores);
                int units = 16 % cores == 0 ? 16 / cores : 16 / cores + 1;
                Check.due("for " + cores + ", the first day", units, () -> x.demand(0, 0));
                Check.due("for " + cores + ", the last day", units, () -> x.demand(720, 0));
            }
        });
        Edges.test("9", "`product`: 0 to 4", () -> {
            for (int product = 0; product < 5; product++) {
                RightsCounter x = Scenes.withNeeds(5);
                x.setCores(0, 16);
                int p = product;
                Check.due("product " + p, 1, () -> x.setCoresOfUnit(p, 8));
                for (int need = 0; need < 5; need++) {
                    int n = need;
                    Check.due("product " + n + ", set for " + p, n == p ? 2 : 16, () -> x.demand(0, n));
                }
            }
        });
        Edges.test("9", "`cores`: 1 to 16", () -> {
            for (int cores : new int[] {1, 2, 15, 16}) {
                RightsCounter x = Scenes.withCores(64);
                Check.due(cores + " are taken", 1, () -> x.setCoresOfUnit(0, cores));
                Check.due(cores + " are for a unit", (64 + cores - 1) / cores, () -> x.demand(0, 0));
            }
        });
        Edges.test("9", "Returns the number before.", () -> {
            for (int product : new int[] {0, 4}) {
                RightsCounter x = new RightsCounter();
                int before = 1;
                for (int cores : new int[] {1, 16, 1, 2, 2, 16, 16, 7}) {
                    int b = before;
                    Check.due("to " + cores, b, () -> x.setCoresOfUnit(product, cores));
                    before = cores;
                }
            }
        });
    }

    private static void setCoresOfUnitRefuses() {
        Edges.test("9", "Throws `IndexOutOfBoundsException` if there is no such product", () -> {
            for (int product : Edges.outside(0, 4)) {
                for (Scenes.Scene scene : ALL_SCENES) {
                    Edges.refused("product " + product, Check.OUT_OF_BOUNDS, scene, x -> x.setCoresOfUnit(product, 2));
                }
            }
        });
        Edges.test("9", "Throws `IllegalArgumentException` if cores is out of range", () -> {
            for (int cores : Edges.outside(1, 16)) {
                for (Scenes.Scene scene : ALL_SCENES) {
                    Edges.refused("product 0, " + cores, Check.ARGUMENT, scene, x -> x.setCoresOfUnit(0, cores));
                    Edges.refused("product 4, " + cores, Check.ARGUMENT, scene, x -> x.setCoresOfUnit(4, cores));
                }
            }
        });
    }

    private static void machinesAreCounted() {
        Edges.asked("none", 0, Scenes::empty, x -> x.machines());
        Edges.asked("four", 4, Scenes::some, x -> x.machines());
        Edges.asked("eight", 8, Scenes::full, x -> x.machines());
        RightsCounter x = new RightsCounter();
        for (int machine = 0; machine < 8; machine++) {
            int m = machine;
            Check.due("machines", m, () -> x.machines());
            x.addMachine(1, m - 1);
        }
        Check.refuses("a ninth", Check.STATE, () -> x.addMachine(1, NONE));
        Check.due("eight, one within the other", 8, () -> x.machines());
    }
}
