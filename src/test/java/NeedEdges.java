/** Promises 14 to 16 and 21, a sentence each. */
final class NeedEdges {
    private static final int NONE = Scenes.NONE;
    static final String DAY = "`day`: 0 to 720";
    static final String NEED = "`need`: 0 or more, less than needs()";
    static final String NO_DAY = "Throws `IllegalArgumentException` if day is out of range";
    static final String NO_NEED = "Throws `IndexOutOfBoundsException` if there is no such need";

    private NeedEdges() {
    }

    static void run() {
        needs();
        need();
        needReturns();
        demand();
        demandReturns();
        most();
        mostArguments();
        mostRefuses();
    }

    interface OfDay {
        int on(RightsCounter x, int day);
    }

    interface OfNeed {
        int on(RightsCounter x, int day, int need);
    }

    /** The day is looked at ahead of all else; refusing it changes nothing. */
    static void noSuchDay(OfDay call) {
        for (int day : Edges.outside(0, 720)) {
            Edges.refused("nothing runs, day " + day, Check.ARGUMENT, Scenes::empty, x -> call.on(x, day));
            Edges.refused("some runs, day " + day, Check.ARGUMENT, Scenes::some, x -> call.on(x, day));
            Edges.refused("much runs, day " + day, Check.ARGUMENT, Scenes::full, x -> call.on(x, day));
        }
    }

    static void noSuchNeed(OfNeed call) {
        for (int need : new int[] {-1, 0, 1, Integer.MIN_VALUE, Integer.MAX_VALUE}) {
            Edges.refused("a day of none, need " + need, Check.OUT_OF_BOUNDS, Scenes::empty,
                    x -> call.on(x, 0, need));
        }
        for (int need : Edges.outside(0, 0)) {
            Edges.refused("a day of one, need " + need, Check.OUT_OF_BOUNDS, Scenes::some, x -> call.on(x, 0, need));
        }
        for (int need : Edges.outside(0, 10)) {
            Edges.refused("a day of eleven, need " + need, Check.OUT_OF_BOUNDS, Scenes::full,
                    x -> call.on(x, 50, need));
        }
        RightsCounter all = Scenes.withNeeds(40);
        for (int need : Edges.outside(0, 39)) {
            Check.refuses("a day of forty, need " + need, Check.OUT_OF_BOUNDS, () -> call.on(all, 0, need));
        }
        RightsCounter gap = Scenes.withMachines(1);
        gap.install(0, 0, 1, 10);
        gap.uninstall(0, 0, 20);
        Check.refuses("the day ahead", Check.OUT_OF_BOUNDS, () -> call.on(gap, 9, 0));
        Check.refuses("the day of its end", Check.OUT_OF_BOUNDS, () -> call.on(gap, 20, 0));
    }

    private static void needs() {
        Edges.test("14", "Returns how many needs a day has.", () -> {
            RightsCounter x = Scenes.withMachines(8);
            Check.due("none", 0, () -> x.needs(0));
            for (int need = 0; need < 40; need++) {
                x.install(need / 5, need % 5, 1, need);
                int n = need;
                Check.due("on the day of one more", n + 1, () -> x.needs(n));
                Check.due("on the last day", n + 1, () -> x.needs(720));
            }
            Edges.asked("asking for them", 11, Scenes::full, y -> y.needs(50));
        });
        Edges.test("14", DAY, () -> {
            RightsCounter x = Scenes.withMachines(1);
            x.install(0, 0, 1, 0);
            x.uninstall(0, 0, 1);
            x.install(0, 0, 1, 720);
            int[] due = {1, 0, 0, 1};
            int[] days = {0, 1, 719, 720};
            for (int i = 0; i < days.length; i++) {
                int day = days[i];
                Check.due("day " + day, due[i], () -> x.needs(day));
            }
        });
        Edges.test("14", "Returns how many.", () -> {
            RightsCounter x = Scenes.withMachines(1);
            Check.due("a machine on which nothing runs", 0, () -> x.needs(720));
            for (int count : new int[] {1, 5, 6, 39, 40}) {
                Check.due(count + " of them", count, () -> Scenes.withNeeds(count).needs(0));
            }
        });
        Edges.test("14", NO_DAY, () -> noSuchDay((x, day) -> x.needs(day)));
    }

    private static void need() {
        Edges.test("15", "Returns what a need is for.", () -> {
            RightsCounter x = Scenes.withNeeds(40);
            for (int need = 0; need < 40; need++) {
                int n = need;
                Check.due("need " + n, 100 * (n / 5) + 10 * (n % 5) + 5, () -> x.need(0, n));
            }
            Edges.asked("asking for it", 245, Scenes::full, y -> y.need(50, 10));
        });
        Edges.test("15", DAY, () -> {
            RightsCounter x = Scenes.withMachines(1);
            x.install(0, 0, 1, 0);
            x.install(0, 0, 2, 1);
            x.install(0, 0, 8, 719);
            x.install(0, 0, 9, 720);
            Check.due("day 0", 1, () -> x.need(0, 0));
            Check.due("day 1", 2, () -> x.need(1, 0));
            Check.due("day 719", 8, () -> x.need(719, 0));
            Check.due("day 720", 9, () -> x.need(720, 0));
        });
        Edges.test("15", NEED, () -> {
            for (int count : new int[] {1, 2, 39, 40}) {
                RightsCounter x = Scenes.withNeeds(count);
                int last = x.needs(0) - 1;
                Check.due("the first of " + count, 5, () -> x.need(0, 0));
                Check.due("the last of " + count, 100 * (last / 5) + 10 * (last % 5) + 5, () -> x.need(0, last));
            }
        });
        Edges.test("15", NO_DAY, () -> noSuchDay((x, day) -> x.need(day, 0)));
        Edges.test("15", NO_NEED, () -> noSuchNeed((x, day, need) -> x.need(day, need)));
    }

    private static void needReturns() {
        Edges.test("15", "Returns 100 times the machine, 10 times the product, and the version, together.", () -> {
            int[][] corners = {{0, 0, 1}, {0, 0, 9}, {0, 4, 1}, {0, 4, 9}, {7, 0, 1}, {7, 0, 9}, {7, 4, 1}, {7, 4, 9}};
            int[] due = {1, 9, 41, 49, 701, 709, 741, 749};
            for (int corner = 0; corner < corners.length; corner++) {
                RightsCounter x = Scenes.withMachines(8);
                int[] c = corners[corner];
                x.install(c[0], c[1], c[2], 0);
                Check.due("machine " + c[0] + ", product " + c[1] + ", version " + c[2], due[corner],
                        () -> x.need(0, 0));
            }
        });
    }

    private static void demand() {
        Edges.test("16", "Returns the demand of a need.", () -> {
            RightsCounter x = Scenes.withCores(1, 64, 16, 17);
            x.setCoresOfUnit(0, 16);
            int[] due = {1, 4, 1, 2};
            for (int need = 0; need < due.length; need++) {
                int n = need;
                Check.due("need " + n, due[n], () -> x.demand(0, n));
            }
            Edges.asked("asking for it", 24, Scenes::full, y -> y.demand(50, 10));
        });
        Edges.test("16", DAY, () -> {
            RightsCounter x = new RightsCounter();
            x.addMachine(3, NONE);
            x.addMachine(4, NONE);
            x.install(0, 0, 1, 0);
            x.uninstall(0, 0, 1);
            x.install(1, 0, 1, 719);
            x.install(0, 0, 1, 720);
            Check.due("day 0", 3, () -> x.demand(0, 0));
            Check.due("day 719", 4, () -> x.demand(719, 0));
            Check.due("day 720, the first", 3, () -> x.demand(720, 0));
            Check.due("day 720, the second", 4, () -> x.demand(720, 1));
        });
        Edges.test("16", NEED, () -> {
            for (int count : new int[] {1, 39, 40}) {
                RightsCounter x = Scenes.withNeeds(count);
                x.setCores((count - 1) / 5, 64);
                Check.due("the last of " + count, 64, () -> x.demand(0, x.needs(0) - 1));
                x.setCores(0, 63);
                Check.due("the first of " + count, 63, () -> x.demand(0, 0));
            }
        });
        Edges.test("16", NO_DAY, () -> noSuchDay((x, day) -> x.demand(day, 0)));
        Edges.test("16", NO_NEED, () -> noSuchNeed((x, day, need) -> x.demand(day, need)));
    }

    private static void demandReturns() {
        Edges.test("16", "Returns the units.", () -> {
            for (int cores = 1; cores <= 64; cores++) {
                RightsCounter x = Scenes.withCores(cores);
                int c = cores;
                for (int ofUnit = 1; ofUnit <= 16; ofUnit++) {
                    x.setCoresOfUnit(0, ofUnit);
                    int units = c / ofUnit + (c % ofUnit > 0 ? 1 : 0);
                    Check.due(c + " cores, " + ofUnit + " a unit", units, () -> x.demand(720, 0));
                }
            }
        });
    }

    /** Product 4 runs on a machine of 5 cores on one day. */
    private static RightsCounter ranOn(int day) {
        RightsCounter x = new RightsCounter();
        x.addMachine(5, NONE);
        x.install(0, 4, 1, day);
        if (day < 720) {
            x.uninstall(0, 4, day + 1);
        }
        return x;
    }

    private static void most() {
        Edges.test("21", "Returns the most that was needed of a product on a day of a month.", () -> {
            for (int month = 0; month < 24; month++) {
                int m = month;
                RightsCounter first = ranOn(30 * m);
                RightsCounter last = ranOn(30 * m + 29);
                Check.due("the first day of month " + m, 5, () -> first.most(4, m));
                Check.due("the last day of month " + m, 5, () -> last.most(4, m));
                if (m > 0) {
                    Check.due("the month ahead of " + m, 0, () -> first.most(4, m - 1));
                }
                if (m < 23) {
                    Check.due("the month behind " + m, 0, () -> last.most(4, m + 1));
                }
            }
            Edges.asked("asking for it", 16 + 24, Scenes::full, y -> y.most(4, 23));
        });
        Edges.test("21", "Returns the greatest sum, over days of the month, of the demands of all needs for the "
                + "product.",
                () -> {
            Check.due("none", 0, () -> Scenes.withMachines(8).most(0, 0));
            RightsCounter x = Scenes.withCores(64, 64, 64, 64, 64, 64, 64, 64);
            Check.due("eight of 64", 512, () -> x.most(0, 0));
            Check.due("no other product", 0, () -> x.most(1, 0));
            x.setCoresOfUnit(0, 16);
            Check.due("16 cores a unit", 32, () -> x.most(0, 0));
            RightsCounter y = new RightsCounter();
            y.addMachine(5, NONE);
            y.addMachine(7, NONE);
            y.addMachine(3, 0);
            y.install(0, 0, 1, 30);
            y.uninstall(0, 0, 31);
            y.install(1, 0, 1, 31);
            y.uninstall(1, 0, 59);
            Check.due("never two at once", 7, () -> y.most(0, 1));
            y.install(0, 0, 2, 58);
            Check.due("both on one day", 12, () -> y.most(0, 1));
            y.install(2, 0, 1, 58);
            Check.due("one within another", 12, () -> y.most(0, 1));
            Check.due("the next month", 5, () -> y.most(0, 2));
        });
    }

    private static void mostArguments() {
        Edges.test("21", "`product`: 0 to 4", () -> {
            for (int product = 0; product < 5; product++) {
                RightsCounter x = Scenes.withMachines(1);
                x.install(0, product, 1, 0);
                int p = product;
                for (int asked = 0; asked < 5; asked++) {
                    int a = asked;
                    Check.due("product " + a + ", where " + p + " runs", a == p ? 1 : 0, () -> x.most(a, 0));
                }
            }
        });
        Edges.test("21", "`month`: 0 to 23", () -> {
            RightsCounter first = ranOn(0);
            Check.due("month 0", 5, () -> first.most(4, 0));
            Check.due("day 0 is not in month 1", 0, () -> first.most(4, 1));
            RightsCounter last = ranOn(719);
            Check.due("month 23", 5, () -> last.most(4, 23));
            Check.due("day 719 is not in month 22", 0, () -> last.most(4, 22));
            Check.due("day 720 is in none", 0, () -> ranOn(720).most(4, 23));
        });
    }

    private static void mostRefuses() {
        Edges.test("21", "Throws `IndexOutOfBoundsException` if there is no such product", () -> {
            RunEdges.noSuchProduct((x, product) -> x.most(product, 0));
            RunEdges.noSuchProduct((x, product) -> x.most(product, 23));
        });
        Edges.test("21", "Throws `IllegalArgumentException` if month is out of range", () -> {
            for (int month : Edges.outside(0, 23)) {
                Edges.refused("nothing runs, " + month, Check.ARGUMENT, Scenes::empty, x -> x.most(0, month));
                Edges.refused("some runs, " + month, Check.ARGUMENT, Scenes::some, x -> x.most(4, month));
                Edges.refused("much runs, " + month, Check.ARGUMENT, Scenes::full, x -> x.most(0, month));
            }
        });
    }
}
