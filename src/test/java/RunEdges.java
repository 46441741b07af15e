/** Promises 11 to 13, a sentence each. */
final class RunEdges {
    private static final String NO_MACHINE_OR_PRODUCT =
            "Throws `IndexOutOfBoundsException` if there is no such machine or product";

    private RunEdges() {
    }

    static void run() {
        install();
        installArguments();
        installRefuses();
        Edges.test("11", "Throws `IllegalStateException` if it was installed or uninstalled there on this day or a "
                + "later one, or was installed there 10 times", RunEdges::installRefusesStates);
        uninstall();
        uninstallArguments();
        uninstallRefuses();
        Edges.test("12", "Throws `IllegalStateException` if it was never installed there, was uninstalled there "
                + "since it was installed last, or was installed there on this day or a later one",
                RunEdges::uninstallRefusesStates);
        runs();
        runsArguments();
        runsRefuses();
    }

    /** Pairs of a day and the version that runs on it: product 0 on machine 0. */
    private static void dueVersions(RightsCounter x, int... daysAndVersions) {
        for (int pair = 0; pair < daysAndVersions.length; pair += 2) {
            int day = daysAndVersions[pair];
            Check.due("runs on day " + day, daysAndVersions[pair + 1], () -> x.runs(0, 0, day));
        }
    }

    private static void install() {
        Edges.test("11", "Installs a product on a machine; if it runs there on this day, it runs with the new "
                + "version from this day on.", () -> {
            RightsCounter x = Scenes.withMachines(2);
            x.install(0, 0, 4, 10);
            dueVersions(x, 0, 0, 9, 0, 10, 4, 11, 4, 720, 4);
            x.install(0, 0, 9, 11);
            dueVersions(x, 9, 0, 10, 4, 11, 9, 12, 9, 720, 9);
            x.install(0, 0, 1, 720);
            dueVersions(x, 10, 4, 11, 9, 719, 9, 720, 1);
            Check.due("no other machine", 0, () -> x.runs(1, 0, 720));
            Check.due("no other product", 0, () -> x.runs(0, 1, 720));
            RightsCounter y = Scenes.withMachines(1);
            y.install(0, 0, 4, 10);
            y.uninstall(0, 0, 11);
            y.install(0, 0, 6, 12);
            dueVersions(y, 9, 0, 10, 4, 11, 0, 12, 6, 720, 6);
        });
        Edges.test("11", "Returns how often it was installed on this machine then.", () -> {
            RightsCounter x = Scenes.withMachines(2);
            for (int time = 1; time <= 10; time++) {
                int t = time;
                Check.due("time " + t, t, () -> x.install(0, 0, 1, 2 * t));
                Check.refuses("a refused one", Check.STATE, () -> x.install(0, 0, 1, 2 * t));
                if (t % 2 == 0) {
                    x.uninstall(0, 0, 2 * t + 1);
                }
            }
            Check.due("on another machine", 1, () -> x.install(1, 0, 1, 720));
            Check.due("of another product", 1, () -> x.install(0, 4, 1, 720));
        });
    }

    private static void installArguments() {
        Edges.test("11", "`machine`: a machine", () -> {
            for (int machine : new int[] {0, 7}) {
                RightsCounter x = Scenes.withMachines(8);
                Check.due("machine " + machine, 1, () -> x.install(machine, 0, 3, 0));
                for (int other = 0; other < 8; other++) {
                    int o = other;
                    Check.due("runs on " + o, o == machine ? 3 : 0, () -> x.runs(o, 0, 0));
                }
            }
        });
        Edges.test("11", "`product`: 0 to 4", () -> {
            for (int product : new int[] {0, 1, 3, 4}) {
                RightsCounter x = Scenes.withMachines(1);
                Check.due("product " + product, 1, () -> x.install(0, product, 3, 0));
                for (int other = 0; other < 5; other++) {
                    int o = other;
                    Check.due("product " + o + " runs", o == product ? 3 : 0, () -> x.runs(0, o, 0));
                }
            }
        });
        Edges.test("11", "`version`: 1 to 9", () -> {
            for (int version : new int[] {1, 2, 8, 9}) {
                RightsCounter x = Scenes.withMachines(1);
                Check.due("version " + version, 1, () -> x.install(0, 0, version, 0));
                Check.due("it runs", version, () -> x.runs(0, 0, 0));
            }
        });
        Edges.test("11", "`day`: 0 to 720", () -> {
            for (int day : new int[] {0, 1, 719, 720}) {
                RightsCounter x = Scenes.withMachines(1);
                Check.due("day " + day, 1, () -> x.install(0, 0, 3, day));
                dueVersions(x, day, 3, 720, 3, Math.max(0, day - 1), day == 0 ? 3 : 0);
            }
        });
    }

    private static void installRefuses() {
        Edges.test("11", NO_MACHINE_OR_PRODUCT, () -> {
            MachineEdges.noSuchMachine((x, machine) -> x.install(machine, 3, 1, 720));
            noSuchProduct((x, product) -> x.install(0, product, 1, 720));
            Edges.refused("neither", Check.OUT_OF_BOUNDS, Scenes::full, x -> x.install(8, 5, 1, 720));
        });
        Edges.test("11", "Throws `IllegalArgumentException` if version or day is out of range", () -> {
            for (int version : Edges.outside(1, 9)) {
                Edges.refused("version " + version, Check.ARGUMENT, Scenes::some, x -> x.install(3, 2, version, 0));
                Edges.refused("full, " + version, Check.ARGUMENT, Scenes::full, x -> x.install(0, 0, version, 720));
            }
            for (int day : Edges.outside(0, 720)) {
                Edges.refused("day " + day, Check.ARGUMENT, Scenes::some, x -> x.install(0, 4, 1, day));
                Edges.refused("full, day " + day, Check.ARGUMENT, Scenes::full, x -> x.install(0, 0, 1, day));
            }
        });
    }

    interface OfProduct {
        int on(RightsCounter x, int product);
    }

    static void noSuchProduct(OfProduct call) {
        for (int product : Edges.outside(0, 4)) {
            Edges.refused("product " + product, Check.OUT_OF_BOUNDS, Scenes::some, x -> call.on(x, product));
            Edges.refused("full, product " + product, Check.OUT_OF_BOUNDS, Scenes::full, x -> call.on(x, product));
        }
    }

    /** Product 0 was installed on machine 0 on day 10, uninstalled on day 20, if it is to have ended. */
    private static RightsCounter ran(boolean ended) {
        RightsCounter x = Scenes.withMachines(2);
        x.install(0, 0, 4, 10);
        if (ended) {
            x.uninstall(0, 0, 20);
        }
        return x;
    }

    private static void installRefusesStates() {
        for (int day : new int[] {0, 9, 10}) {
            Edges.refused("installed on day 10, day " + day, Check.STATE, () -> ran(false),
                    x -> x.install(0, 0, 5, day));
        }
        Check.due("installed on the day ahead", 2, () -> ran(false).install(0, 0, 5, 11));
        for (int day : new int[] {0, 9, 10, 11, 19, 20}) {
            Edges.refused("uninstalled on day 20, day " + day, Check.STATE, () -> ran(true),
                    x -> x.install(0, 0, 5, day));
        }
        Check.due("uninstalled on the day ahead", 2, () -> ran(true).install(0, 0, 5, 21));
        Check.due("on another machine", 1, () -> ran(true).install(1, 0, 5, 0));
        Check.due("another product", 1, () -> ran(true).install(0, 1, 5, 0));
        RightsCounter first = Scenes.withMachines(1);
        first.install(0, 0, 1, 0);
        Check.refuses("day 0 twice", Check.STATE, () -> first.install(0, 0, 2, 0));
        Check.due("day 1 behind it", 2, () -> first.install(0, 0, 2, 1));
        RightsCounter last = Scenes.withMachines(1);
        last.install(0, 0, 1, 720);
        Check.refuses("day 720 twice", Check.STATE, () -> last.install(0, 0, 2, 720));
        installRefusesTheEleventh();
    }

    private static void installRefusesTheEleventh() {
        Edges.refused("ten times", Check.STATE, Scenes::full, x -> x.install(0, 0, 1, 11));
        Edges.refused("ten times, the last day", Check.STATE, Scenes::full, x -> x.install(0, 0, 1, 720));
        RightsCounter x = Scenes.withMachines(8);
        for (int time = 1; time <= 9; time++) {
            x.install(7, 4, time, time);
        }
        Check.due("the tenth", 10, () -> x.install(7, 4, 3, 10));
        Check.refuses("the eleventh", Check.STATE, () -> x.install(7, 4, 5, 11));
        Check.due("the tenth runs on", 3, () -> x.runs(7, 4, 11));
        Check.due("the tenth ends", 3, () -> x.uninstall(7, 4, 12));
        Check.refuses("the eleventh, behind the end", Check.STATE, () -> x.install(7, 4, 5, 13));
        Check.due("another product", 1, () -> x.install(7, 3, 5, 13));
        Check.due("another machine", 1, () -> x.install(6, 4, 5, 13));
    }

    private static void uninstall() {
        Edges.test("12", "Uninstalls a product from a machine.", () -> {
            RightsCounter x = ran(false);
            x.install(0, 1, 7, 10);
            x.install(1, 0, 8, 10);
            x.uninstall(0, 0, 20);
            dueVersions(x, 9, 0, 10, 4, 19, 4, 20, 0, 21, 0, 720, 0);
            Check.due("no other product", 7, () -> x.runs(0, 1, 20));
            Check.due("from no other machine", 8, () -> x.runs(1, 0, 20));
        });
        Edges.test("12", "Returns the version that ran there.", () -> {
            for (int version : new int[] {1, 9}) {
                RightsCounter x = Scenes.withMachines(1);
                x.install(0, 0, 5, 0);
                x.install(0, 0, version, 1);
                Check.due("the version installed last", version, () -> x.uninstall(0, 0, 2));
            }
            RightsCounter x = Scenes.withMachines(1);
            for (int time = 1; time <= 9; time++) {
                int t = time;
                x.install(0, 0, t, 2 * t);
                Check.due("each time", t, () -> x.uninstall(0, 0, 2 * t + 1));
            }
        });
    }

    private static void uninstallArguments() {
        Edges.test("12", "`machine`: a machine", () -> {
            for (int machine : new int[] {0, 7}) {
                RightsCounter x = Scenes.withCores(1, 1, 1, 1, 1, 1, 1, 1);
                Check.due("machine " + machine, 5, () -> x.uninstall(machine, 0, 1));
                for (int other = 0; other < 8; other++) {
                    int o = other;
                    Check.due("runs on " + o, o == machine ? 0 : 5, () -> x.runs(o, 0, 1));
                }
            }
        });
        Edges.test("12", "`product`: 0 to 4", () -> {
            for (int product : new int[] {0, 1, 3, 4}) {
                RightsCounter x = Scenes.withNeeds(5);
                Check.due("product " + product, 5, () -> x.uninstall(0, product, 1));
                for (int other = 0; other < 5; other++) {
                    int o = other;
                    Check.due("product " + o + " runs", o == product ? 0 : 5, () -> x.runs(0, o, 1));
                }
            }
        });
        Edges.test("12", "`day`: 0 to 720", () -> {
            for (int day : new int[] {1, 2, 719, 720}) {
                RightsCounter x = Scenes.withCores(1);
                Check.due("day " + day, 5, () -> x.uninstall(0, 0, day));
                dueVersions(x, day - 1, 5, day, 0, 720, 0);
            }
            // No product can have been installed ahead of day 0; but it is in range.
            Edges.refused("day 0", Check.STATE, () -> Scenes.withCores(1), x -> x.uninstall(0, 0, 0));
        });
    }

    private static void uninstallRefuses() {
        Edges.test("12", NO_MACHINE_OR_PRODUCT, () -> {
            MachineEdges.noSuchMachine((x, machine) -> x.uninstall(machine, 0, 720));
            noSuchProduct((x, product) -> x.uninstall(0, product, 720));
            Edges.refused("neither", Check.OUT_OF_BOUNDS, Scenes::full, x -> x.uninstall(8, 5, 720));
        });
        Edges.test("12", "Throws `IllegalArgumentException` if day is out of range", () -> {
            for (int day : Edges.outside(0, 720)) {
                Edges.refused("it runs, day " + day, Check.ARGUMENT, Scenes::some, x -> x.uninstall(0, 0, day));
                Edges.refused("it does not, day " + day, Check.ARGUMENT, Scenes::some, x -> x.uninstall(0, 4, day));
                Edges.refused("ten times, day " + day, Check.ARGUMENT, Scenes::full, x -> x.uninstall(0, 0, day));
            }
        });
    }

    private static void uninstallRefusesStates() {
        for (int day : new int[] {0, 1, 720}) {
            Edges.refused("never installed, day " + day, Check.STATE, () -> ran(false),
                    x -> x.uninstall(0, 1, day));
            Edges.refused("on another machine alone, day " + day, Check.STATE, () -> ran(false),
                    x -> x.uninstall(1, 0, day));
        }
        for (int day : new int[] {0, 9, 10, 11, 19, 20, 21, 720}) {
            Edges.refused("uninstalled on day 20, day " + day, Check.STATE, () -> ran(true),
                    x -> x.uninstall(0, 0, day));
        }
        for (int day : new int[] {0, 9, 10}) {
            Edges.refused("installed on day 10, day " + day, Check.STATE, () -> ran(false),
                    x -> x.uninstall(0, 0, day));
        }
        Check.due("installed on the day ahead", 4, () -> ran(false).uninstall(0, 0, 11));
        RightsCounter x = ran(true);
        x.install(0, 0, 6, 30);
        for (int day : new int[] {15, 20, 25, 30}) {
            Check.refuses("installed again on day 30, day " + day, Check.STATE, () -> x.uninstall(0, 0, day));
        }
        dueVersions(x, 9, 0, 10, 4, 19, 4, 20, 0, 29, 0, 30, 6, 720, 6);
        Check.due("on the day behind it", 6, () -> x.uninstall(0, 0, 31));
        RightsCounter last = Scenes.withMachines(1);
        last.install(0, 0, 1, 720);
        Check.refuses("installed on the last day", Check.STATE, () -> last.uninstall(0, 0, 720));
    }

    private static void runs() {
        Edges.test("13", "Returns the version of a product that runs on a machine itself.", () -> {
            RightsCounter x = new RightsCounter();
            x.addMachine(1, Scenes.NONE);
            x.addMachine(1, 0);
            x.addMachine(1, 1);
            x.install(1, 0, 8, 10);
            Check.due("on the machine between", 8, () -> x.runs(1, 0, 10));
            Check.due("not on its host", 0, () -> x.runs(0, 0, 10));
            Check.due("not on the one within it", 0, () -> x.runs(2, 0, 10));
            x.install(0, 0, 9, 10);
            Check.due("the host has a greater one", 8, () -> x.runs(1, 0, 10));
            x.tellApart(1, true);
            Check.due("told apart", 8, () -> x.runs(1, 0, 10));
            Edges.asked("asking for it", 3, Scenes::some, y -> y.runs(0, 0, 59));
        });
        Edges.test("13", "Returns the version; 0 if it does not run there on this day.", () -> {
            RightsCounter x = Scenes.withMachines(1);
            dueVersions(x, 0, 0, 720, 0);
            x.install(0, 0, 1, 10);
            x.install(0, 0, 9, 20);
            x.uninstall(0, 0, 30);
            x.install(0, 0, 2, 40);
            x.uninstall(0, 0, 720);
            dueVersions(x, 0, 0, 9, 0, 10, 1, 19, 1, 20, 9, 29, 9, 30, 0, 39, 0, 40, 2, 719, 2, 720, 0);
            RightsCounter full = Scenes.full();
            dueVersions(full, 0, 0, 1, 2, 2, 3, 8, 9, 9, 1, 10, 2, 11, 2, 720, 2);
        });
    }

    private static void runsArguments() {
        Edges.test("13", "`machine`: a machine", () -> {
            RightsCounter x = Scenes.withMachines(8);
            x.install(0, 0, 1, 0);
            x.install(7, 0, 9, 0);
            Check.due("the first", 1, () -> x.runs(0, 0, 0));
            Check.due("the last", 9, () -> x.runs(7, 0, 0));
            Check.due("the one ahead of it", 0, () -> x.runs(6, 0, 0));
        });
        Edges.test("13", "`product`: 0 to 4", () -> {
            RightsCounter x = Scenes.withMachines(1);
            x.install(0, 0, 1, 0);
            x.install(0, 4, 9, 0);
            Check.due("the first", 1, () -> x.runs(0, 0, 0));
            Check.due("the last", 9, () -> x.runs(0, 4, 0));
            Check.due("the one ahead of it", 0, () -> x.runs(0, 3, 0));
        });
        Edges.test("13", "`day`: 0 to 720", () -> {
            RightsCounter x = Scenes.withMachines(1);
            x.install(0, 0, 1, 0);
            x.uninstall(0, 0, 1);
            x.install(0, 0, 9, 720);
            dueVersions(x, 0, 1, 1, 0, 719, 0, 720, 9);
        });
    }

    private static void runsRefuses() {
        Edges.test("13", NO_MACHINE_OR_PRODUCT, () -> {
            MachineEdges.noSuchMachine((x, machine) -> x.runs(machine, 0, 0));
            noSuchProduct((x, product) -> x.runs(0, product, 0));
            Edges.refused("neither", Check.OUT_OF_BOUNDS, Scenes::full, x -> x.runs(8, 5, 0));
        });
        Edges.test("13", "Throws `IllegalArgumentException` if day is out of range", () -> {
            for (int day : Edges.outside(0, 720)) {
                Edges.refused("it runs, day " + day, Check.ARGUMENT, Scenes::some, x -> x.runs(0, 0, day));
                Edges.refused("it does not, day " + day, Check.ARGUMENT, Scenes::full, x -> x.runs(7, 4, day));
            }
        });
    }
}
