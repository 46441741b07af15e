/** What the document says ahead of its promises, a sentence each. */
final class TermEdges {
    private static final int NONE = Scenes.NONE;

    private TermEdges() {
    }

    static void run() {
        Edges.test("What it is", "An object is used for at most 512 calls after it has been made; what later calls "
                + "answer is free.", TermEdges::use);
        rights();
        machines();
        whatRuns();
        needsOfADay();
        whatRightsGive();
    }

    /** All that an object can hold, in 512 calls: ten rights, eight machines, and each product installed ten times. */
    private static void use() {
        RightsCounter x = new RightsCounter();
        for (int right = 0; right < 10; right++) {
            x.addRight(31, 9, 100, 0, 720);
        }
        for (int machine = 0; machine < 8; machine++) {
            x.addMachine(64, machine - 1);
        }
        for (int time = 1; time <= 10; time++) {
            for (int place = 0; place < 40; place++) {
                int m = place / 5;
                int p = place % 5;
                int t = time;
                Check.due("install", t, () -> x.install(m, p, 10 - Math.min(t, 9), 72 * t));
            }
        }
        for (int machine = 1; machine < 8; machine++) {
            x.tellApart(machine, true);
        }
        for (int need = 0; need < 40; need++) {
            int n = need;
            Check.due("gets", n < 15 ? 64 : n == 15 ? 40 : 0, () -> x.gets(720, n));
        }
        // These were 465 calls.
        for (int month = 0; month < 24; month++) {
            int m = month;
            Check.due("most, month " + m, m < 2 ? 0 : 512, () -> x.most(4, m));
        }
        for (int spare = 0; spare < 22; spare++) {
            Check.due("spare", 0, () -> x.spare(720, 0, 9));
        }
        Check.due("the 512th call", 40 * 64 - 1000, () -> x.lack(720));
    }

    private static void rights() {
        Edges.test("Rights", "There are the products 0 to 4.", () -> {
            RightsCounter x = Scenes.withNeeds(5);
            x.addRight(31, 9, 100, 0, 720);
            for (int product : new int[] {0, 4}) {
                Check.due("cores of a unit of " + product, 1, () -> x.setCoresOfUnit(product, 1));
                Check.due("runs, product " + product, 5, () -> x.runs(0, product, 0));
                Check.due("spare for product " + product, 95, () -> x.spare(0, product, 1));
                Check.due("most of product " + product, 1, () -> x.most(product, 0));
                Check.due("install, product " + product, 2, () -> x.install(0, product, 1, 1));
                Check.due("uninstall, product " + product, 1, () -> x.uninstall(0, product, 2));
            }
            for (int product : new int[] {-1, 5}) {
                Check.refuses("cores of a unit of " + product, Check.OUT_OF_BOUNDS, () -> x.setCoresOfUnit(product, 1));
                Check.refuses("runs, product " + product, Check.OUT_OF_BOUNDS, () -> x.runs(0, product, 0));
                Check.refuses("spare for product " + product, Check.OUT_OF_BOUNDS, () -> x.spare(0, product, 1));
                Check.refuses("most of product " + product, Check.OUT_OF_BOUNDS, () -> x.most(product, 0));
                Check.refuses("install, product " + product, Check.OUT_OF_BOUNDS, () -> x.install(0, product, 1, 9));
                Check.refuses("uninstall, product " + product, Check.OUT_OF_BOUNDS, () -> x.uninstall(0, product, 9));
            }
        });
        Edges.test("Rights", "There are at most 10 rights, numbered from 0.", () -> {
            RightsCounter x = new RightsCounter();
            for (int right = 0; right < 10; right++) {
                int r = right;
                Check.refuses("there is no right " + r + " yet", Check.OUT_OF_BOUNDS, () -> x.setUnits(r, 1));
                Check.due("right " + r, r, () -> x.addRight(1, 9, 1, 0, 720));
                Check.due("there is a right " + r, 1, () -> x.setUnits(r, 1));
            }
            Check.refuses("an eleventh", Check.STATE, () -> x.addRight(1, 9, 1, 0, 720));
            Check.refuses("there is no right 10", Check.OUT_OF_BOUNDS, () -> x.setUnits(10, 1));
        });
        Edges.test("Rights", "A right has a set of products, a version, 1 to 9, units, a first and a last day.", () -> {
            RightsCounter x = new RightsCounter();
            x.addRight(0b10001, 1, 3, 0, 0);
            x.addRight(0b10001, 9, 7, 720, 720);
            Check.due("the first, product 0", 3, () -> x.spare(0, 0, 1));
            Check.due("the first, product 4", 3, () -> x.spare(0, 4, 1));
            Check.due("the first, no product between", 0, () -> x.spare(0, 1, 1) + x.spare(0, 3, 1));
            Check.due("the first, version 2", 0, () -> x.spare(0, 0, 2));
            Check.due("the first, day 1", 0, () -> x.spare(1, 0, 1));
            Check.due("the second, version 9", 7, () -> x.spare(720, 0, 9));
            Check.due("the second, version 1", 7, () -> x.spare(720, 0, 1));
            Check.due("the second, day 719", 0, () -> x.spare(719, 0, 1));
        });
        Edges.test("Rights", "On a day of its span, with both ends, it can give its units for needs of each of its "
                + "products whose versions are not above its own; a unit is given for one need on a "
                + "day at most.", () -> {
            RightsCounter x = Scenes.withNeeds(2);
            x.addRight(0b11, 5, 1, 10, 20);
            int[][] dayAndDue = {{9, 0}, {10, 1}, {15, 1}, {20, 1}, {21, 0}};
            for (int[] pair : dayAndDue) {
                Check.due("the first need on day " + pair[0], pair[1], () -> x.gets(pair[0], 0));
                Check.due("the second need on day " + pair[0], 0, () -> x.gets(pair[0], 1));
            }
            x.install(0, 0, 6, 15);
            Check.due("the version above its own", 0, () -> x.gets(15, 0));
            Check.due("the second need then", 1, () -> x.gets(15, 1));
            x.upgrade(0, 6);
            Check.due("upgraded to the same version", 1, () -> x.gets(15, 0));
            x.upgrade(0, 7);
            Check.due("upgraded to a later one", 1, () -> x.gets(15, 0));
        });
    }

    private static void machines() {
        Edges.test("Machines", "There are at most 8 machines, numbered from 0.", () -> {
            RightsCounter x = new RightsCounter();
            for (int machine = 0; machine < 8; machine++) {
                int m = machine;
                Check.refuses("there is no machine " + m + " yet", Check.OUT_OF_BOUNDS, () -> x.setCores(m, 1));
                Check.due("machine " + m, m, () -> x.addMachine(1, NONE));
                Check.due("there is a machine " + m, 1, () -> x.setCores(m, 1));
            }
            Check.refuses("a ninth", Check.STATE, () -> x.addMachine(1, NONE));
            Check.refuses("there is no machine 8", Check.OUT_OF_BOUNDS, () -> x.setCores(8, 1));
        });
        Edges.test("Machines", "A machine has cores, 1 to 64, and a host, a machine with a lesser number, or none; "
                + "it is told apart, or not, as at first.", () -> {
            RightsCounter x = new RightsCounter();
            Check.refuses("machine 0 can't be its own host", Check.OUT_OF_BOUNDS, () -> x.addMachine(1, 0));
            x.addMachine(1, NONE);
            Check.refuses("nor machine 1", Check.OUT_OF_BOUNDS, () -> x.addMachine(64, 1));
            Check.refuses("nor one with a greater number", Check.OUT_OF_BOUNDS, () -> x.addMachine(64, 2));
            x.addMachine(64, 0);
            x.install(1, 0, 1, 0);
            Check.due("not told apart at first", 1, () -> x.demand(0, 0));
            Check.due("told apart", 1, () -> x.tellApart(1, true));
            Check.due("its own cores", 64, () -> x.demand(0, 0));
        });
        Edges.test("Machines", "A machine counts by itself if it has no host, or is told apart; otherwise it counts "
                + "by what its host counts by.", () -> {
            RightsCounter x = new RightsCounter();
            for (int machine = 0; machine < 8; machine++) {
                x.addMachine(1, machine - 1);
            }
            // Every way to tell the three innermost apart: the last that is told so counts, or else the first machine.
            for (int told = 0; told < 8; told++) {
                x.tellApart(5, told % 2 == 1);
                x.tellApart(6, told / 2 % 2 == 1);
                int by = told >= 4 ? 7 : told >= 2 ? 6 : told == 1 ? 5 : 0;
                boolean last = told >= 4;
                Check.due("told apart " + told, by, () -> x.tellApart(7, last));
            }
            Check.due("without a host", 0, () -> x.tellApart(0, false));
            Check.due("without a host, told apart", 0, () -> x.tellApart(0, true));
        });
        Edges.test("Machines", "A product has a number of cores that one unit is for, 1 at first.", () -> {
            RightsCounter x = new RightsCounter();
            for (int product = 0; product < 5; product++) {
                int p = product;
                Check.due("product " + p, 1, () -> x.setCoresOfUnit(p, 16));
            }
            RightsCounter y = Scenes.withCores(64);
            Check.due("64 cores", 64, () -> y.demand(0, 0));
        });
    }

    private static void whatRuns() {
        Edges.test("What runs", "A product that is installed on a machine on a day, with a version, runs there from "
                + "this day on, until the day on which it is uninstalled, that day not included.", () -> {
            RightsCounter x = Scenes.withMachines(1);
            x.install(0, 0, 3, 0);
            x.uninstall(0, 0, 1);
            x.install(0, 0, 4, 10);
            x.uninstall(0, 0, 20);
            x.install(0, 0, 5, 719);
            x.uninstall(0, 0, 720);
            int[][] dayAndDue = {{0, 3}, {1, 0}, {9, 0}, {10, 4}, {19, 4}, {20, 0}, {718, 0}, {719, 5}, {720, 0}};
            for (int[] pair : dayAndDue) {
                Check.due("day " + pair[0], pair[1], () -> x.runs(0, 0, pair[0]));
                Check.due("needs of day " + pair[0], pair[1] == 0 ? 0 : 1, () -> x.needs(pair[0]));
            }
        });
        Edges.test("What runs", "Days are 0 to 720; month m has the days from 30 * m to 30 * m + 29, 0 to 23.", () -> {
            RightsCounter x = Scenes.withCores(1);
            x.addRight(1, 9, 1, 0, 720);
            for (int day : new int[] {0, 720}) {
                Check.due("needs, day " + day, 1, () -> x.needs(day));
                Check.due("gets, day " + day, 1, () -> x.gets(day, 0));
            }
            for (int day : new int[] {-1, 721}) {
                Check.refuses("needs, day " + day, Check.ARGUMENT, () -> x.needs(day));
                Check.refuses("gets, day " + day, Check.ARGUMENT, () -> x.gets(day, 0));
                Check.refuses("install, day " + day, Check.ARGUMENT, () -> x.install(0, 1, 1, day));
                Check.refuses("addRight, day " + day, Check.ARGUMENT, () -> x.addRight(1, 1, 1, day, day));
            }
            x.uninstall(0, 0, 30);
            x.install(0, 0, 1, 690);
            int[][] monthAndDue = {{0, 1}, {1, 0}, {22, 0}, {23, 1}};
            for (int[] pair : monthAndDue) {
                Check.due("month " + pair[0], pair[1], () -> x.most(0, pair[0]));
            }
            Check.refuses("month -1", Check.ARGUMENT, () -> x.most(0, -1));
            Check.refuses("month 24", Check.ARGUMENT, () -> x.most(0, 24));
        });
    }

    private static void needsOfADay() {
        Edges.test("What runs", "The needs of a day are, for each machine and each product, for which the product "
                + "runs on this day on the machine, or on one that counts by it: one need, with the greatest "
                + "version that runs there so.", () -> {
            RightsCounter x = new RightsCounter();
            for (int machine = 0; machine < 8; machine++) {
                x.addMachine(1, machine - 1);
            }
            Check.due("nothing runs", 0, () -> x.needs(0));
            for (int machine = 7; machine >= 1; machine--) {
                x.install(machine, 0, machine, 10 - machine);
            }
            Check.due("the day ahead", 0, () -> x.needs(2));
            Check.due("the innermost alone, with 7", 7, () -> x.need(3, 0));
            Check.due("one need for all", 1, () -> x.needs(10));
            Check.due("the innermost has the greatest", 7, () -> x.need(10, 0));
            x.uninstall(7, 0, 20);
            Check.due("without it", 6, () -> x.need(20, 0));
            x.install(0, 0, 9, 30);
            Check.due("the machine's own is the greatest", 9, () -> x.need(30, 0));
            x.install(3, 0, 9, 40);
            Check.due("two of the greatest are one need", 1, () -> x.needs(40));
            x.tellApart(5, true);
            Check.due("one told apart", 2, () -> x.needs(40));
            Check.due("what counts by it still", 506, () -> x.need(40, 1));
        });
        Edges.test("What runs", "(So there are none for machines that count by another one.)", () -> {
            RightsCounter x = new RightsCounter();
            x.addMachine(3, NONE);
            x.addMachine(9, 0);
            x.install(1, 2, 4, 0);
            Check.due("one need", 1, () -> x.needs(0));
            Check.due("of the host, where it does not run itself", 24, () -> x.need(0, 0));
            Check.refuses("none of the inner one", Check.OUT_OF_BOUNDS, () -> x.need(0, 1));
        });
        Edges.test("What runs", "They are numbered from 0, by rising machines, then by rising products.", () -> {
            RightsCounter x = Scenes.withMachines(8);
            for (int place = 39; place >= 0; place--) {
                x.install(place / 5, place % 5, 1, 0);
            }
            for (int need = 0; need < 40; need++) {
                int n = need;
                Check.due("need " + n, 100 * (n / 5) + 10 * (n % 5) + 1, () -> x.need(0, n));
            }
            x.uninstall(0, 0, 1);
            Check.due("the first is gone, the second is the first", 11, () -> x.need(1, 0));
            Check.due("the last moves up", 741, () -> x.need(1, 38));
            Check.refuses("no number is left behind it", Check.OUT_OF_BOUNDS, () -> x.need(1, 39));
        });
        Edges.test("What runs", "The demand of a need is the cores of its machine, divided by the number of cores "
                + "that one unit of the product is for, rounded up.", () -> {
            int[][] coresOfUnitAndDue = {{1, 1, 1}, {1, 16, 1}, {15, 16, 1}, {16, 16, 1}, {17, 16, 2}, {64, 16, 4},
                {64, 15, 5}, {64, 1, 64}, {63, 2, 32}};
            for (int[] c : coresOfUnitAndDue) {
                RightsCounter x = Scenes.withCores(c[0]);
                x.setCoresOfUnit(0, c[1]);
                Check.due(c[0] + " by " + c[1], c[2], () -> x.demand(0, 0));
            }
        });
    }

    private static void whatRightsGive() {
        Edges.test("What rights give", "The needs of a day are served in their order.", () -> {
            RightsCounter x = Scenes.withNeeds(40);
            x.addRight(31, 9, 1, 0, 720);
            for (int units = 1; units < 40; units++) {
                int u = units;
                x.setUnits(0, u);
                Check.due("the last of " + u, 1, () -> x.gets(0, u - 1));
                Check.due("the one behind it", 0, () -> x.gets(0, u));
            }
        });
        Edges.test("What rights give", "Each gets as many units as it can, of all ways to give units of rights to "
                + "it and to those ahead of it with which those ahead of it get as much as they "
                + "did.", TermEdges::asManyAsItCan);
        Edges.test("What rights give", "(Units of several rights can serve one need.)", () -> {
            RightsCounter x = Scenes.withCores(64);
            for (int right = 0; right < 10; right++) {
                x.addRight(1, 9, 6, 0, 720);
                int r = right;
                Check.due(r + 1 + " rights of 6", 6 * r + 6, () -> x.gets(0, 0));
            }
            x.setUnits(9, 10);
            Check.due("just enough", 64, () -> x.gets(0, 0));
            x.setUnits(9, 11);
            Check.due("a unit more", 64, () -> x.gets(0, 0));
            Check.due("it is spare", 1, () -> x.spare(0, 0, 1));
        });
        Edges.test("What rights give", "What a need lacks is its demand less what it gets.", () -> {
            RightsCounter x = Scenes.withCores(9);
            x.addRight(1, 9, 1, 0, 720);
            for (int units : new int[] {0, 1, 8, 9, 10, 100}) {
                x.setUnits(0, units);
                Check.due("gets of " + units, Math.min(units, 9), () -> x.gets(0, 0));
                Check.due("lack of " + units, Math.max(9 - units, 0), () -> x.lack(0));
                Check.due("lackBySets of " + units, Math.max(9 - units, 0), () -> x.lackBySets(0));
            }
        });
    }

    /** Need 0 can have units of both rights, need 1 of the first alone. */
    private static void asManyAsItCan() {
        RightsCounter x = Scenes.withNeeds(2);
        x.setCores(0, 6);
        x.addRight(0b11, 9, 6, 0, 720);
        x.addRight(0b01, 9, 1, 0, 720);
        for (int units = 0; units <= 8; units++) {
            int u = units;
            x.setUnits(1, u);
            Check.due("the first, " + u + " besides", 6, () -> x.gets(0, 0));
            Check.due("the second gets what the first can do without, " + u, Math.min(u, 6), () -> x.gets(0, 1));
        }
        // The first keeps what it gets: it does not give way for two that would get more.
        RightsCounter y = Scenes.withCores(4, 4, 4);
        y.addRight(1, 9, 7, 0, 720);
        int[] due = {4, 3, 0};
        for (int need = 0; need < 3; need++) {
            int n = need;
            Check.due("one right for three, " + n, due[n], () -> y.gets(0, n));
        }
        // Right r is for the products r and r + 1, so each need can give way to the one behind it, to the last.
        RightsCounter z = Scenes.withMachines(2);
        for (int product = 0; product < 5; product++) {
            z.install(0, product, 1, 0);
            z.addRight(3 << product & 31, 9, 1, 0, 720);
        }
        z.install(1, 4, 1, 0);
        Check.due("six needs, five rights: the last gets none", 0, () -> z.gets(0, 5));
        z.addRight(1, 9, 1, 0, 720);
        Check.due("by as many exchanges as there are needs ahead", 1, () -> z.gets(0, 5));
        z.setUnits(2, 0);
        Check.due("with the row broken", 0, () -> z.gets(0, 5));
        Check.due("those ahead get theirs still", 5, () -> 6 - z.lack(0));
    }
}
