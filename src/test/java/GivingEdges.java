/** Promises 17 to 20, a sentence each. */
final class GivingEdges {
    private static final int[] END_DAYS = {0, 1, 719, 720};

    private GivingEdges() {
    }

    static void run() {
        gets();
        getsReturns();
        lack();
        lackBySets();
        Edges.test("19", "Throws `IllegalStateException` if the day has more than 10 needs",
                GivingEdges::lackBySetsRefuses);
        spare();
        spareArguments();
        spareRefuses();
    }

    private static void dueGets(RightsCounter x, int... units) {
        for (int need = 0; need < units.length; need++) {
            int n = need;
            Check.due("gets of " + n, units[n], () -> x.gets(0, n));
        }
    }

    /** A need of 9 units on all days, and a right of 4, 5, 6 or 7 units on each of the ends of all days. */
    private static RightsCounter rightsOnEndDays() {
        RightsCounter x = Scenes.withCores(9);
        for (int i = 0; i < END_DAYS.length; i++) {
            x.addRight(1, 9, 4 + i, END_DAYS[i], END_DAYS[i]);
        }
        return x;
    }

    private static void gets() {
        Edges.test("17", "Returns what a need gets.", () -> {
            RightsCounter x = Scenes.withCores(3, 3, 3, 3);
            dueGets(x, 0, 0, 0, 0);
            x.addRight(1, 9, 8, 0, 720);
            dueGets(x, 3, 3, 2, 0);
            Edges.asked("asking for it", 10, Scenes::some, y -> y.gets(0, 0));
        });
        Edges.test("17", NeedEdges.DAY, () -> {
            RightsCounter x = rightsOnEndDays();
            for (int i = 0; i < END_DAYS.length; i++) {
                int day = END_DAYS[i];
                Check.due("day " + day, 4 + i, () -> x.gets(day, 0));
            }
            Check.due("a day without rights", 0, () -> x.gets(2, 0) + x.gets(718, 0));
        });
        Edges.test("17", NeedEdges.NEED, () -> {
            for (int count : new int[] {1, 2, 39, 40}) {
                RightsCounter x = Scenes.withNeeds(count);
                x.addRight(31, 9, count, 0, 720);
                Check.due("the first of " + count, 1, () -> x.gets(0, 0));
                Check.due("the last of " + count, 1, () -> x.gets(0, x.needs(0) - 1));
                x.setUnits(0, count - 1);
                Check.due("the last of " + count + ", a unit less", 0, () -> x.gets(0, x.needs(0) - 1));
            }
        });
        Edges.test("17", NeedEdges.NO_DAY, () -> NeedEdges.noSuchDay((x, day) -> x.gets(day, 0)));
        Edges.test("17", NeedEdges.NO_NEED, () -> NeedEdges.noSuchNeed((x, day, need) -> x.gets(day, need)));
    }

    private static void getsReturns() {
        Edges.test("17", "Returns the units.", () -> {
            RightsCounter x = Scenes.withCores(64);
            Check.due("no rights", 0, () -> x.gets(0, 0));
            x.addRight(1, 9, 100, 0, 720);
            int[][] unitsAndDue = {{0, 0}, {1, 1}, {63, 63}, {64, 64}, {65, 64}, {100, 64}};
            for (int[] pair : unitsAndDue) {
                x.setUnits(0, pair[0]);
                Check.due("64 of " + pair[0], pair[1], () -> x.gets(0, 0));
            }
            x.setCores(0, 1);
            Check.due("one of 100", 1, () -> x.gets(0, 0));
        });
    }

    private static void lack() {
        Edges.test("18", "Returns what all needs of a day lack, together.", () -> {
            RightsCounter x = Scenes.withCores(3, 3, 3, 3);
            Check.due("no rights", 12, () -> x.lack(0));
            x.addRight(1, 9, 11, 0, 720);
            Check.due("a unit too few", 1, () -> x.lack(0));
            x.setUnits(0, 12);
            Check.due("just enough", 0, () -> x.lack(0));
            x.setUnits(0, 13);
            Check.due("a unit more", 0, () -> x.lack(0));
            Edges.asked("asking for it", 0, Scenes::some, y -> y.lack(0));
            Edges.asked("asking for much", 64, Scenes::full, y -> y.lack(50));
        });
        Edges.test("18", NeedEdges.DAY, () -> {
            RightsCounter x = rightsOnEndDays();
            for (int i = 0; i < END_DAYS.length; i++) {
                int day = END_DAYS[i];
                Check.due("day " + day, 9 - 4 - i, () -> x.lack(day));
            }
            Check.due("days without rights", 9 + 9, () -> x.lack(2) + x.lack(718));
        });
        Edges.test("18", "Returns the units.", () -> {
            Check.due("no needs", 0, () -> Scenes.withRights(10).lack(0));
            RightsCounter x = Scenes.withNeeds(40);
            for (int machine = 0; machine < 8; machine++) {
                x.setCores(machine, 64);
            }
            Check.due("forty needs of 64", 40 * 64, () -> x.lack(0));
            for (int right = 0; right < 10; right++) {
                x.addRight(31, 9, 100, 0, 720);
            }
            Check.due("forty needs of 64, ten rights of 100", 40 * 64 - 1000, () -> x.lack(0));
        });
        Edges.test("18", NeedEdges.NO_DAY, () -> NeedEdges.noSuchDay((x, day) -> x.lack(day)));
    }

    private static void lackBySets() {
        Edges.test("19", "Returns the same, found by trying all sets of needs: it is the most by which the demands "
                + "of a set, together, are above the units of all rights that can give some to one of the set, "
                + "together; 0 if there is no such set.", () -> {
            Check.due("no needs, no rights", 0, () -> new RightsCounter().lackBySets(0));
            Check.due("no needs, ten rights", 0, () -> Scenes.withRights(10).lackBySets(0));
            RightsCounter x = Scenes.withCores(10, 20);
            Check.due("no rights", 30, () -> x.lackBySets(0));
            x.addRight(1, 9, 29, 0, 720);
            Check.due("both, a unit above", 1, () -> x.lackBySets(0));
            x.setUnits(0, 30);
            Check.due("just enough", 0, () -> x.lackBySets(0));
            x.setUnits(0, 31);
            Check.due("a unit more", 0, () -> x.lackBySets(0));
            dueOfSets();
            Edges.asked("asking for it", 0, Scenes::some, y -> y.lackBySets(0));
        });
        Edges.test("19", NeedEdges.DAY, () -> {
            RightsCounter x = rightsOnEndDays();
            for (int i = 0; i < END_DAYS.length; i++) {
                int day = END_DAYS[i];
                Check.due("day " + day, 9 - 4 - i, () -> x.lackBySets(day));
            }
            Check.due("days without rights", 9 + 9, () -> x.lackBySets(2) + x.lackBySets(718));
        });
        Edges.test("19", "Returns the units.", () -> {
            RightsCounter x = Scenes.withNeeds(10);
            x.setCores(0, 64);
            x.setCores(1, 64);
            Check.due("ten of 64, no rights", 640, () -> x.lackBySets(0));
            for (int right = 0; right < 10; right++) {
                x.addRight(31, 9, 64, 0, 720);
            }
            Check.due("ten of 64, ten of 64", 0, () -> x.lackBySets(0));
            x.setUnits(9, 63);
            Check.due("a unit less", 1, () -> x.lackBySets(0));
        });
        Edges.test("19", NeedEdges.NO_DAY, () -> NeedEdges.noSuchDay((x, day) -> x.lackBySets(day)));
    }

    /** The greatest set is one need, the other one, both, or none of them. */
    private static void dueOfSets() {
        RightsCounter x = Scenes.withNeeds(2);
        x.setCores(0, 10);
        x.addRight(0b01, 9, 4, 0, 720);
        x.addRight(0b10, 9, 100, 0, 720);
        Check.due("the first alone", 6, () -> x.lackBySets(0));
        x.setUnits(0, 100);
        x.setUnits(1, 3);
        Check.due("the second alone", 7, () -> x.lackBySets(0));
        x.setUnits(0, 9);
        Check.due("both", 8, () -> x.lackBySets(0));
        x.setUnits(0, 10);
        x.setUnits(1, 10);
        Check.due("neither", 0, () -> x.lackBySets(0));
        RightsCounter shared = Scenes.withCores(10, 10, 10);
        shared.addRight(1, 9, 10, 0, 720);
        Check.due("one right for all three is counted once", 20, () -> shared.lackBySets(0));
    }

    private static void lackBySetsRefuses() {
        RightsCounter x = Scenes.withNeeds(10);
        Check.due("ten needs", 10, () -> x.lackBySets(0));
        x.install(2, 0, 1, 1);
        Check.due("the day ahead of the eleventh", 10, () -> x.lackBySets(0));
        Check.refuses("the eleventh", Check.STATE, () -> x.lackBySets(1));
        x.uninstall(2, 0, 2);
        Check.due("the day of its end", 10, () -> x.lackBySets(2));
        Edges.refused("eleven needs, day 50", Check.STATE, Scenes::full, y -> y.lackBySets(50));
        Edges.refused("eleven needs, day 720", Check.STATE, Scenes::full, y -> y.lackBySets(720));
        RightsCounter all = Scenes.withNeeds(40);
        Check.refuses("forty needs", Check.STATE, () -> all.lackBySets(0));
        RightsCounter counted = Scenes.full();
        Check.refuses("two machines of five", Check.STATE, () -> counted.lackBySets(720));
        counted.tellApart(5, true);
        Check.refuses("told apart, there are eleven still", Check.STATE, () -> counted.lackBySets(720));
        counted.uninstall(5, 0, 700);
        Check.due("ten of them", 320, () -> counted.lackBySets(720));
    }

    private static void spare() {
        Edges.test("20", "Returns how many units could be given, besides what all needs of a day get, for one more "
                + "need of a product.", () -> {
            RightsCounter x = Scenes.withCores(4);
            Check.due("no rights", 0, () -> x.spare(0, 0, 5));
            x.addRight(1, 9, 3, 0, 720);
            Check.due("a unit too few", 0, () -> x.spare(0, 0, 5));
            x.setUnits(0, 4);
            Check.due("just enough", 0, () -> x.spare(0, 0, 5));
            x.setUnits(0, 5);
            Check.due("a unit more", 1, () -> x.spare(0, 0, 5));
            Check.due("no right for this product", 0, () -> x.spare(0, 1, 5));
            Edges.asked("asking for it", 2, Scenes::some, y -> y.spare(0, 1, 5));
        });
        Edges.test("20", "Returns the units that it could get at most, if it were served behind all others.", () -> {
            RightsCounter x = Scenes.withNeeds(40);
            for (int right = 0; right < 10; right++) {
                x.addRight(31, 9, 100, 0, 720);
            }
            Check.due("behind forty needs", 1000 - 40, () -> x.spare(0, 4, 9));
            RightsCounter none = new RightsCounter();
            for (int right = 0; right < 10; right++) {
                none.addRight(31, 9, 100, 0, 720);
            }
            Check.due("behind none", 1000, () -> none.spare(0, 0, 1));
            RightsCounter y = Scenes.withCores(4);
            y.addRight(0b11, 9, 4, 0, 720);
            y.addRight(0b01, 9, 4, 0, 720);
            Check.due("those ahead give way, by an exchange", 4, () -> y.spare(0, 1, 1));
            y.setUnits(1, 3);
            Check.due("they give no more way than they can", 3, () -> y.spare(0, 1, 1));
            y.setUnits(1, 0);
            Check.due("those ahead have all", 0, () -> y.spare(0, 1, 1));
        });
    }

    private static void spareArguments() {
        Edges.test("20", NeedEdges.DAY, () -> {
            RightsCounter x = new RightsCounter();
            for (int i = 0; i < END_DAYS.length; i++) {
                x.addRight(1, 9, 4 + i, END_DAYS[i], END_DAYS[i]);
            }
            for (int i = 0; i < END_DAYS.length; i++) {
                int day = END_DAYS[i];
                Check.due("day " + day, 4 + i, () -> x.spare(day, 0, 1));
            }
            Check.due("days without rights", 0, () -> x.spare(2, 0, 1) + x.spare(718, 0, 1));
        });
        Edges.test("20", "`product`: 0 to 4", () -> {
            RightsCounter x = new RightsCounter();
            x.addRight(0b00001, 9, 3, 0, 720);
            x.addRight(0b10000, 9, 7, 0, 720);
            int[] due = {3, 0, 0, 0, 7};
            for (int product = 0; product < 5; product++) {
                int p = product;
                Check.due("product " + p, due[p], () -> x.spare(0, p, 1));
            }
        });
        Edges.test("20", "`version`: 1 to 9", () -> {
            RightsCounter x = new RightsCounter();
            x.addRight(1, 1, 3, 0, 720);
            x.addRight(1, 8, 7, 0, 720);
            x.addRight(1, 9, 20, 0, 720);
            int[] due = {30, 27, 27, 27, 27, 27, 27, 27, 20};
            for (int version = 1; version <= 9; version++) {
                int v = version;
                Check.due("version " + v, due[v - 1], () -> x.spare(0, 0, v));
            }
        });
    }

    private static void spareRefuses() {
        Edges.test("20", "Throws `IllegalArgumentException` if day or version is out of range", () -> {
            NeedEdges.noSuchDay((x, day) -> x.spare(day, 0, 1));
            NeedEdges.noSuchDay((x, day) -> x.spare(day, 4, 9));
            for (int version : Edges.outside(1, 9)) {
                Edges.refused("version " + version, Check.ARGUMENT, Scenes::empty, x -> x.spare(0, 0, version));
                Edges.refused("some, version " + version, Check.ARGUMENT, Scenes::some, x -> x.spare(0, 0, version));
                Edges.refused("full, version " + version, Check.ARGUMENT, Scenes::full, x -> x.spare(720, 4, version));
            }
        });
        Edges.test("20", "Throws `IndexOutOfBoundsException` if there is no such product", () -> {
            RunEdges.noSuchProduct((x, product) -> x.spare(0, product, 1));
            RunEdges.noSuchProduct((x, product) -> x.spare(720, product, 9));
            for (int product : Edges.outside(0, 4)) {
                Edges.refused("no rights, product " + product, Check.OUT_OF_BOUNDS, Scenes::empty,
                        x -> x.spare(0, product, 1));
            }
        });
    }
}
