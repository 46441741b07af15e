/** What the document says of exceptions and of the constant, a sentence each. */
final class ExceptionEdges {
    private static final int NONE = Scenes.NONE;

    private ExceptionEdges() {
    }

    static void run() {
        exceptions();
        Edges.test("Exceptions", "The first line of a method's throws clause that applies decides; a call that "
                + "throws changes nothing.", ExceptionEdges::theFirstLineDecides);
        Edges.test("Exceptions", "The constants: `NONE = -1`: There is none.", () -> {
            Check.due("NONE", -1, () -> RightsCounter.NONE);
            RightsCounter x = Scenes.withMachines(2);
            Check.due("-1 is no host", 2, () -> x.addMachine(1, -1));
            Check.due("it counts by itself", 2, () -> x.tellApart(2, false));
        });
    }

    private static void exceptions() {
        Edges.test("Exceptions", "IndexOutOfBoundsException: there is no such product, right, machine or need.", () -> {
            Edges.refused("product 5", Check.OUT_OF_BOUNDS, Scenes::full, x -> x.setCoresOfUnit(5, 1));
            Edges.refused("right 10", Check.OUT_OF_BOUNDS, Scenes::full, x -> x.setUnits(10, 1));
            Edges.refused("machine 8", Check.OUT_OF_BOUNDS, Scenes::full, x -> x.setCores(8, 1));
            Edges.refused("host 8", Check.OUT_OF_BOUNDS, Scenes::full, x -> x.addMachine(1, 8));
            Edges.refused("need 11", Check.OUT_OF_BOUNDS, Scenes::full, x -> x.need(50, 11));
        });
        Edges.test("Exceptions", "IllegalArgumentException: another argument is out of range.", () -> {
            Edges.refused("products", Check.ARGUMENT, Scenes::some, x -> x.addRight(32, 1, 1, 0, 0));
            Edges.refused("version", Check.ARGUMENT, Scenes::some, x -> x.spare(0, 0, 10));
            Edges.refused("units", Check.ARGUMENT, Scenes::some, x -> x.setUnits(0, 101));
            Edges.refused("cores", Check.ARGUMENT, Scenes::some, x -> x.setCores(0, 65));
            Edges.refused("day", Check.ARGUMENT, Scenes::some, x -> x.needs(721));
            Edges.refused("month", Check.ARGUMENT, Scenes::some, x -> x.most(0, 24));
        });
        Edges.test("Exceptions", "IllegalStateException: as the method says.", () -> {
            Edges.refused("addRight", Check.STATE, Scenes::full, x -> x.addRight(1, 1, 1, 0, 0));
            Edges.refused("upgrade", Check.STATE, Scenes::full, x -> x.upgrade(8, 9));
            Edges.refused("addMachine", Check.STATE, Scenes::full, x -> x.addMachine(1, NONE));
            Edges.refused("install", Check.STATE, Scenes::full, x -> x.install(0, 0, 1, 720));
            Edges.refused("uninstall", Check.STATE, Scenes::full, x -> x.uninstall(7, 0, 720));
            Edges.refused("lackBySets", Check.STATE, Scenes::full, x -> x.lackBySets(50));
        });
    }

    /** Each call is wrong in all the ways that its name tells; the first of them is due. */
    private static void theFirstLineDecides() {
        Edges.refused("addRight: argument, full", Check.ARGUMENT, Scenes::full, x -> x.addRight(0, 1, 1, 0, 0));
        Edges.refused("upgrade: right, version", Check.OUT_OF_BOUNDS, Scenes::full, x -> x.upgrade(10, 0));
        Edges.refused("upgrade: version, not above", Check.ARGUMENT, Scenes::full, x -> x.upgrade(8, 0));
        Edges.refused("setUnits: right, units", Check.OUT_OF_BOUNDS, Scenes::full, x -> x.setUnits(10, 101));
        Edges.refused("addMachine: host, cores, full", Check.OUT_OF_BOUNDS, Scenes::full, x -> x.addMachine(65, 8));
        Edges.refused("addMachine: host, cores", Check.OUT_OF_BOUNDS, Scenes::some, x -> x.addMachine(65, 4));
        Edges.refused("addMachine: host, full", Check.OUT_OF_BOUNDS, Scenes::full, x -> x.addMachine(1, -2));
        Edges.refused("addMachine: cores, full", Check.ARGUMENT, Scenes::full, x -> x.addMachine(0, NONE));
        Edges.refused("setCores: machine, cores", Check.OUT_OF_BOUNDS, Scenes::full, x -> x.setCores(8, 0));
        Edges.refused("setCoresOfUnit: product, cores", Check.OUT_OF_BOUNDS, Scenes::full,
                x -> x.setCoresOfUnit(5, 17));
        Edges.refused("install: machine, version, day", Check.OUT_OF_BOUNDS, Scenes::full,
                x -> x.install(8, 0, 10, 721));
        Edges.refused("install: product, version, day", Check.OUT_OF_BOUNDS, Scenes::full,
                x -> x.install(0, -1, 0, -1));
        Edges.refused("install: version, ten times", Check.ARGUMENT, Scenes::full, x -> x.install(0, 0, 10, 720));
        Edges.refused("install: version, an earlier day", Check.ARGUMENT, Scenes::some, x -> x.install(0, 0, 0, 0));
        Edges.refused("install: day, ten times", Check.ARGUMENT, Scenes::full, x -> x.install(0, 0, 1, 721));
        Edges.refused("uninstall: machine, day", Check.OUT_OF_BOUNDS, Scenes::full, x -> x.uninstall(8, 0, 721));
        Edges.refused("uninstall: product, day", Check.OUT_OF_BOUNDS, Scenes::full, x -> x.uninstall(0, 5, -1));
        Edges.refused("uninstall: day, never installed", Check.ARGUMENT, Scenes::full, x -> x.uninstall(7, 4, 721));
        Edges.refused("runs: machine, day", Check.OUT_OF_BOUNDS, Scenes::full, x -> x.runs(-1, 0, -1));
        Edges.refused("runs: product, day", Check.OUT_OF_BOUNDS, Scenes::full, x -> x.runs(0, 5, 721));
        Edges.refused("need: day, need", Check.ARGUMENT, Scenes::full, x -> x.need(721, -1));
        Edges.refused("demand: day, need", Check.ARGUMENT, Scenes::full, x -> x.demand(-1, 40));
        Edges.refused("gets: day, need", Check.ARGUMENT, Scenes::full, x -> x.gets(721, 40));
        Edges.refused("spare: day, product", Check.ARGUMENT, Scenes::full, x -> x.spare(721, 5, 1));
        Edges.refused("spare: version, product", Check.ARGUMENT, Scenes::full, x -> x.spare(0, -1, 10));
        Edges.refused("most: product, month", Check.OUT_OF_BOUNDS, Scenes::full, x -> x.most(5, 24));
    }
}
