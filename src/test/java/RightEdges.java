import java.util.List;

/** Promises 1 to 5, a sentence each. */
final class RightEdges {
    private static final int NONE = Scenes.NONE;
    private static final List<Scenes.Scene> ALL_SCENES = List.of(Scenes::empty, Scenes::some, Scenes::full);

    private RightEdges() {
    }

    static void run() {
        newObject();
        addRight();
        addRightArguments();
        addRightRefuses();
        upgrade();
        upgradeRefuses();
        setUnits();
        setUnitsRefuses();
        Edges.test("5", "Returns how many rights there are.", RightEdges::rightsAreCounted);
    }

    private static void newObject() {
        Edges.test("1", "No rights, no machines.", () -> {
            RightsCounter x = new RightsCounter();
            Check.due("rights", 0, () -> x.rights());
            Check.due("machines", 0, () -> x.machines());
            for (int day : new int[] {0, 720}) {
                Check.due("needs of " + day, 0, () -> x.needs(day));
                Check.due("lack of " + day, 0, () -> x.lack(day));
                Check.due("lackBySets of " + day, 0, () -> x.lackBySets(day));
                Check.due("spare of product 0 on " + day, 0, () -> x.spare(day, 0, 1));
                Check.due("spare of product 4 on " + day, 0, () -> x.spare(day, 4, 9));
                Check.refuses("need 0 of " + day, Check.OUT_OF_BOUNDS, () -> x.need(day, 0));
                Check.refuses("demand 0 of " + day, Check.OUT_OF_BOUNDS, () -> x.demand(day, 0));
                Check.refuses("gets 0 of " + day, Check.OUT_OF_BOUNDS, () -> x.gets(day, 0));
            }
            Check.due("most of product 0", 0, () -> x.most(0, 0));
            Check.due("most of product 4", 0, () -> x.most(4, 23));
            Check.due("a right of another object", 0, () -> new RightsCounter().addRight(31, 9, 100, 0, 720));
            Check.due("a machine of another object", 0, () -> new RightsCounter().addMachine(64, NONE));
            Check.due("neither is one here", 0, () -> x.rights() + x.machines());
        });
    }

    private static void addRight() {
        Edges.test("2", "Adds a right.", () -> {
            RightsCounter x = new RightsCounter();
            for (int right = 0; right < 10; right++) {
                Check.due("units of " + right, right, () -> x.spare(0, 0, 1));
                Check.due("rights, " + right, right, () -> x.rights());
                x.addRight(1, 9, 1, 0, 0);
            }
            Check.due("units of ten", 10, () -> x.spare(0, 0, 1));
            Check.due("rights, ten", 10, () -> x.rights());
        });
        Edges.test("2", "Returns its number.", () -> {
            RightsCounter x = new RightsCounter();
            for (int right = 0; right < 10; right++) {
                int r = right;
                Check.due("right " + r, r, () -> x.addRight(31, 9, 100, 0, 720));
            }
            RightsCounter y = new RightsCounter();
            Check.refuses("a refused one", Check.ARGUMENT, () -> y.addRight(0, 1, 1, 0, 0));
            Check.due("it takes no number", 0, () -> y.addRight(1, 1, 1, 0, 0));
        });
    }

    private static void addRightArguments() {
        Edges.test("2", "`products`: 1 to 31: the set, each product counts 2 to the power of its number", () -> {
            for (int products = 1; products <= 31; products++) {
                RightsCounter x = new RightsCounter();
                x.addRight(products, 9, 7, 0, 720);
                int set = products;
                for (int product = 0; product < 5; product++) {
                    int p = product;
                    Check.due("product " + p + " of " + set, set / (1 << p) % 2 == 0 ? 0 : 7, () -> x.spare(0, p, 1));
                }
            }
        });
        Edges.test("2", "`version`: 1 to 9", () -> {
            for (int version = 1; version <= 9; version++) {
                RightsCounter x = new RightsCounter();
                x.addRight(1, version, 7, 0, 720);
                int v = version;
                for (int asked = 1; asked <= 9; asked++) {
                    int a = asked;
                    Check.due("version " + a + " by " + v, a <= v ? 7 : 0, () -> x.spare(0, 0, a));
                }
            }
        });
        Edges.test("2", "`units`: 1 to 100", () -> {
            for (int units : new int[] {1, 2, 99, 100}) {
                RightsCounter x = new RightsCounter();
                Check.due(units + " are taken", 0, () -> x.addRight(1, 9, units, 0, 720));
                Check.due(units + " are given", units, () -> x.spare(0, 0, 1));
            }
        });
        Edges.test("2", "`first`: 0 to 720", () -> {
            dueSpan(0, 720);
            dueSpan(1, 720);
            dueSpan(719, 720);
            dueSpan(720, 720);
        });
        Edges.test("2", "`last`: first to 720", () -> {
            dueSpan(0, 0);
            dueSpan(300, 300);
            dueSpan(300, 301);
            dueSpan(300, 719);
            dueSpan(300, 720);
        });
    }

    private static void dueSpan(int first, int last) {
        RightsCounter x = new RightsCounter();
        String span = first + " to " + last;
        Check.due(span, 0, () -> x.addRight(1, 9, 7, first, last));
        for (int day : new int[] {0, first - 1, first, first + 1, last - 1, last, last + 1, 720}) {
            if (day >= 0 && day <= 720) {
                Check.due(span + ", day " + day, day < first || day > last ? 0 : 7, () -> x.spare(day, 0, 1));
            }
        }
    }

    private static void addRightRefuses() {
        Edges.test("2", "Throws `IllegalArgumentException` if products, version, units, first or last is out of "
                + "range",
                () -> ALL_SCENES.forEach(RightEdges::addRightRefusesIn));
        Edges.test("2", "Throws `IllegalStateException` if there are 10 rights", () -> {
            RightsCounter x = Scenes.withRights(9);
            Check.due("nine and one", 9, () -> x.addRight(1, 1, 1, 0, 0));
            Check.refuses("ten and one", Check.STATE, () -> x.addRight(1, 1, 1, 0, 0));
            Check.due("ten stay", 10, () -> x.rights());
            Edges.refused("ten, least values", Check.STATE, Scenes::full, y -> y.addRight(1, 1, 1, 0, 0));
            Edges.refused("ten, greatest values", Check.STATE, Scenes::full, y -> y.addRight(31, 9, 100, 720, 720));
            RightsCounter z = Scenes.withRights(10);
            z.setUnits(9, 0);
            Check.refuses("one of ten has no units", Check.STATE, () -> z.addRight(1, 1, 1, 0, 0));
        });
    }

    private static void addRightRefusesIn(Scenes.Scene scene) {
        for (int products : Edges.outside(1, 31)) {
            Edges.refused("products " + products, Check.ARGUMENT, scene, x -> x.addRight(products, 1, 1, 0, 0));
        }
        for (int version : Edges.outside(1, 9)) {
            Edges.refused("version " + version, Check.ARGUMENT, scene, x -> x.addRight(1, version, 1, 0, 0));
        }
        for (int units : Edges.outside(1, 100)) {
            Edges.refused("units " + units, Check.ARGUMENT, scene, x -> x.addRight(1, 1, units, 0, 0));
        }
        for (int first : Edges.outside(0, 720)) {
            Edges.refused("first " + first, Check.ARGUMENT, scene, x -> x.addRight(1, 1, 1, first, 720));
            Edges.refused("first and last " + first, Check.ARGUMENT, scene, x -> x.addRight(1, 1, 1, first, first));
        }
        for (int first : new int[] {0, 300, 720}) {
            for (int last : Edges.outside(first, 720)) {
                Edges.refused("first " + first + ", last " + last, Check.ARGUMENT, scene,
                        x -> x.addRight(1, 1, 1, first, last));
            }
        }
    }

    private static void upgrade() {
        Edges.test("3", "Lets a right be for later versions.", () -> {
            RightsCounter x = new RightsCounter();
            x.addRight(1, 1, 7, 10, 20);
            for (int version = 2; version <= 9; version++) {
                int v = version;
                Check.due("not for " + v, 0, () -> x.spare(15, 0, v));
                x.upgrade(0, v);
                Check.due("for " + v, 7, () -> x.spare(15, 0, v));
                Check.due("for 1 still", 7, () -> x.spare(10, 0, 1));
                Check.due("on its days alone", 0, () -> x.spare(9, 0, v) + x.spare(21, 0, v));
            }
        });
        Edges.test("3", "`right`: a right", () -> {
            for (int right : new int[] {0, 9}) {
                RightsCounter x = Scenes.withRights(10);
                Check.due("right " + right, 5, () -> x.upgrade(right, 6));
                Check.due("no other one", 1, () -> x.spare(0, 0, 6));
                Check.due("it alone", 6, () -> x.upgrade(right, 7));
            }
        });
        Edges.test("3", "`version`: 1 to 9", () -> {
            for (int version = 2; version <= 9; version++) {
                RightsCounter x = new RightsCounter();
                x.addRight(1, 1, 7, 0, 720);
                int v = version;
                Check.due("version " + v, 1, () -> x.upgrade(0, v));
                Check.due("it is for it", 7, () -> x.spare(0, 0, v));
            }
            // 1 is above the version of no right; but it is in range.
            Edges.refused("version 1", Check.STATE, Scenes::some, x -> x.upgrade(0, 1));
        });
        Edges.test("3", "Returns the version before.", () -> {
            RightsCounter x = new RightsCounter();
            x.addRight(1, 1, 7, 0, 720);
            for (int version = 2; version <= 9; version++) {
                int v = version;
                Check.due("to " + v, v - 1, () -> x.upgrade(0, v));
            }
        });
    }

    private static void upgradeRefuses() {
        Edges.test("3", "Throws `IndexOutOfBoundsException` if there is no such right",
                () -> noSuchRight((x, right) -> x.upgrade(right, 9)));
        Edges.test("3", "Throws `IllegalArgumentException` if version is out of range", () -> {
            for (int version : Edges.outside(1, 9)) {
                Edges.refused("version " + version, Check.ARGUMENT, Scenes::some, x -> x.upgrade(0, version));
                Edges.refused("the last, " + version, Check.ARGUMENT, Scenes::full, x -> x.upgrade(9, version));
            }
        });
        Edges.test("3", "Throws `IllegalStateException` if the version is not above that of the right", () -> {
            Edges.refused("one below", Check.STATE, Scenes::some, x -> x.upgrade(0, 4));
            Edges.refused("the same", Check.STATE, Scenes::some, x -> x.upgrade(0, 5));
            Check.due("one above", 5, () -> Scenes.some().upgrade(0, 6));
            Edges.refused("above 9 there is none", Check.STATE, Scenes::some, x -> x.upgrade(2, 9));
            RightsCounter x = Scenes.withRights(1);
            x.upgrade(0, 8);
            Check.refuses("the same, upgraded", Check.STATE, () -> x.upgrade(0, 8));
            Check.due("refused, it is as it was", 8, () -> x.upgrade(0, 9));
        });
    }

    private interface OfRight {
        int on(RightsCounter x, int right);
    }

    private static void noSuchRight(OfRight call) {
        for (int right : new int[] {-1, 0, Integer.MIN_VALUE, Integer.MAX_VALUE}) {
            Edges.refused("none, " + right, Check.OUT_OF_BOUNDS, Scenes::empty, x -> call.on(x, right));
        }
        for (int right : Edges.outside(0, 2)) {
            Edges.refused("three, " + right, Check.OUT_OF_BOUNDS, Scenes::some, x -> call.on(x, right));
        }
        for (int right : Edges.outside(0, 9)) {
            Edges.refused("ten, " + right, Check.OUT_OF_BOUNDS, Scenes::full, x -> call.on(x, right));
        }
    }

    private static void setUnits() {
        Edges.test("4", "Gives a right other units, on all days.", () -> {
            RightsCounter x = new RightsCounter();
            x.addRight(1, 9, 7, 0, 720);
            x.setUnits(0, 8);
            for (int day : new int[] {0, 1, 360, 719, 720}) {
                Check.due("day " + day, 8, () -> x.spare(day, 0, 9));
            }
            RightsCounter y = new RightsCounter();
            y.addRight(1, 9, 7, 10, 20);
            y.setUnits(0, 8);
            Check.due("ahead of its span", 0, () -> y.spare(9, 0, 9));
            Check.due("with both ends of it", 16, () -> y.spare(10, 0, 9) + y.spare(20, 0, 9));
            Check.due("behind its span", 0, () -> y.spare(21, 0, 9));
        });
        Edges.test("4", "`right`: a right", () -> {
            for (int right : new int[] {0, 9}) {
                RightsCounter x = Scenes.withRights(10);
                Check.due("right " + right, 1, () -> x.setUnits(right, 5));
                Check.due("no other one", 9 + 5, () -> x.spare(0, 0, 1));
                Check.due("it alone", 5, () -> x.setUnits(right, 0));
            }
        });
        Edges.test("4", "`units`: 0 to 100", () -> {
            for (int units : new int[] {0, 1, 99, 100}) {
                RightsCounter x = Scenes.withRights(1);
                Check.due(units + " are taken", 1, () -> x.setUnits(0, units));
                Check.due(units + " are given", units, () -> x.spare(0, 0, 1));
            }
        });
        Edges.test("4", "Returns the units before.", () -> {
            RightsCounter x = Scenes.withRights(1);
            int before = 1;
            for (int units : new int[] {100, 0, 0, 1, 100, 100, 50}) {
                int b = before;
                Check.due("to " + units, b, () -> x.setUnits(0, units));
                before = units;
            }
        });
    }

    private static void setUnitsRefuses() {
        Edges.test("4", "Throws `IndexOutOfBoundsException` if there is no such right",
                () -> noSuchRight((x, right) -> x.setUnits(right, 50)));
        Edges.test("4", "Throws `IllegalArgumentException` if units is out of range", () -> {
            for (int units : Edges.outside(0, 100)) {
                Edges.refused("units " + units, Check.ARGUMENT, Scenes::some, x -> x.setUnits(0, units));
                Edges.refused("the last, " + units, Check.ARGUMENT, Scenes::full, x -> x.setUnits(9, units));
            }
        });
    }

    private static void rightsAreCounted() {
        Edges.asked("none", 0, Scenes::empty, x -> x.rights());
        Edges.asked("three", 3, Scenes::some, x -> x.rights());
        Edges.asked("ten", 10, Scenes::full, x -> x.rights());
        RightsCounter x = new RightsCounter();
        for (int right = 0; right < 10; right++) {
            int r = right;
            Check.due("rights", r, () -> x.rights());
            x.addRight(1, 1, 1, 0, 0);
        }
        Check.refuses("an eleventh", Check.STATE, () -> x.addRight(1, 1, 1, 0, 0));
        x.setUnits(0, 0);
        Check.due("ten, one of them without units", 10, () -> x.rights());
    }
}
