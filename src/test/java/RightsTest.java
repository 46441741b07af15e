/** Promises 1 to 5: a new object, addRight, upgrade, setUnits, rights. */
public final class RightsTest {
    public static void main(String[] args) {
        newObjectIsEmpty();
        addRightNumbersAndKeeps();
        addRightRefuses();
        addRightRefusesTheEleventh();
        upgradeRaisesTheVersion();
        upgradeRefuses();
        setUnitsOnAllDays();
        setUnitsRefuses();
        rightsCounts();
        Check.end();
    }

    private static void newObjectIsEmpty() {
        RightsCounter x = new RightsCounter();
        Check.due("1: rights of a new object", 0, () -> x.rights());
        Check.due("1: machines of a new object", 0, () -> x.machines());
        Check.due("1: needs of a new object", 0, () -> x.needs(0));
        Check.due("1: spare of a new object", 0, () -> x.spare(0, 0, 1));
        Check.due("1: lack of a new object", 0, () -> x.lack(720));
        Check.due("1: most of a new object", 0, () -> x.most(4, 23));
        Check.due("NONE", -1, () -> RightsCounter.NONE);
        RightsCounter y = new RightsCounter();
        y.addMachine(3, RightsCounter.NONE);
        y.addRight(1, 1, 1, 0, 0);
        Check.due("1: another object shares nothing", 0, () -> x.rights() + x.machines());
    }

    private static void addRightNumbersAndKeeps() {
        RightsCounter x = new RightsCounter();
        Check.due("2: first", 0, () -> x.addRight(1, 1, 1, 0, 0));
        Check.due("2: second", 1, () -> x.addRight(31, 9, 100, 720, 720));
        Check.due("2: third", 2, () -> x.addRight(18, 5, 7, 100, 200));
        Check.due("2: units of the first on its day", 1, () -> x.spare(0, 0, 1));
        Check.due("2: its span has ended", 0, () -> x.spare(1, 0, 1));
        Check.due("2: it is for no later version", 0, () -> x.spare(0, 0, 2));
        Check.due("2: it is for no other product", 0, () -> x.spare(0, 1, 1));
        for (int product = 0; product < 5; product++) {
            int p = product;
            Check.due("2: the second is for product " + p, 100, () -> x.spare(720, p, 9));
        }
        Check.due("2: the second begins on 720", 0, () -> x.spare(719, 2, 9));
        Check.due("2: the third, ahead of its span", 0, () -> x.spare(99, 1, 5));
        Check.due("2: the third, on its first day", 7, () -> x.spare(100, 1, 5));
        Check.due("2: the third, on its last day", 7, () -> x.spare(200, 4, 1));
        Check.due("2: the third, behind its span", 0, () -> x.spare(201, 4, 5));
        Check.due("2: 18 is for products 1 and 4 alone", 0,
                () -> x.spare(150, 0, 1) + x.spare(150, 2, 1) + x.spare(150, 3, 1));
        Check.due("2: the third is for no version 6", 0, () -> x.spare(150, 1, 6));
    }

    private static void addRightRefuses() {
        RightsCounter x = new RightsCounter();
        int[][] wrong = {
            {0, 1, 1, 0, 0}, {32, 1, 1, 0, 0}, {-1, 1, 1, 0, 0}, {Integer.MIN_VALUE, 1, 1, 0, 0},
            {1, 0, 1, 0, 0}, {1, 10, 1, 0, 0}, {1, 1, 0, 0, 0}, {1, 1, 101, 0, 0}, {1, 1, -1, 0, 0},
            {1, 1, 1, -1, 0}, {1, 1, 1, 721, 721}, {1, 1, 1, 0, 721}, {1, 1, 1, 5, 4}, {1, 1, 1, 0, -1},
            {Integer.MAX_VALUE, 1, 1, 0, 0}, {1, 1, 1, 0, Integer.MAX_VALUE}, {1, 1, 1, Integer.MIN_VALUE, 0},
        };
        for (int[] w : wrong) {
            Check.refuses("2: addRight " + java.util.Arrays.toString(w), Check.ARGUMENT,
                    () -> x.addRight(w[0], w[1], w[2], w[3], w[4]));
        }
        Check.due("2: a refused right is not added", 0, () -> x.rights());
    }

    private static void addRightRefusesTheEleventh() {
        RightsCounter x = new RightsCounter();
        for (int right = 0; right < 10; right++) {
            int r = right;
            Check.due("2: right " + r, r, () -> x.addRight(1, 1, 1, 0, 720));
        }
        Check.refuses("2: the eleventh", Check.STATE, () -> x.addRight(1, 1, 1, 0, 720));
        Check.refuses("2: arguments come first", Check.ARGUMENT, () -> x.addRight(0, 1, 1, 0, 720));
        Check.due("2: ten rights stay", 10, () -> x.rights());
        Check.due("2: all ten give", 10, () -> x.spare(0, 0, 1));
    }

    private static void upgradeRaisesTheVersion() {
        RightsCounter x = new RightsCounter();
        x.addRight(1, 3, 5, 0, 720);
        x.addRight(2, 1, 4, 0, 720);
        Check.due("3: not for version 4 yet", 0, () -> x.spare(10, 0, 4));
        Check.due("3: upgrade answers the version before", 3, () -> x.upgrade(0, 4));
        Check.due("3: for version 4 now", 5, () -> x.spare(10, 0, 4));
        Check.due("3: not for version 5", 0, () -> x.spare(10, 0, 5));
        Check.due("3: lesser versions stay", 5, () -> x.spare(10, 0, 1));
        Check.due("3: to the greatest version", 4, () -> x.upgrade(0, 9));
        Check.due("3: the other right is as it was", 1, () -> x.upgrade(1, 2));
    }

    private static void upgradeRefuses() {
        RightsCounter x = new RightsCounter();
        Check.refuses("3: no right at all", Check.OUT_OF_BOUNDS, () -> x.upgrade(0, 5));
        x.addRight(1, 3, 5, 0, 720);
        Check.refuses("3: no such right", Check.OUT_OF_BOUNDS, () -> x.upgrade(1, 5));
        Check.refuses("3: right -1", Check.OUT_OF_BOUNDS, () -> x.upgrade(-1, 5));
        Check.refuses("3: the right comes first", Check.OUT_OF_BOUNDS, () -> x.upgrade(1, 0));
        Check.refuses("3: version 0", Check.ARGUMENT, () -> x.upgrade(0, 0));
        Check.refuses("3: version 10", Check.ARGUMENT, () -> x.upgrade(0, 10));
        Check.refuses("3: the same version", Check.STATE, () -> x.upgrade(0, 3));
        Check.refuses("3: a lesser version", Check.STATE, () -> x.upgrade(0, 1));
        Check.due("3: a refused upgrade changes nothing", 3, () -> x.upgrade(0, 9));
        Check.refuses("3: above 9 there is none", Check.STATE, () -> x.upgrade(0, 9));
    }

    private static void setUnitsOnAllDays() {
        RightsCounter x = new RightsCounter();
        x.addRight(1, 9, 5, 10, 20);
        x.addRight(2, 9, 6, 10, 20);
        Check.due("4: setUnits answers the units before", 5, () -> x.setUnits(0, 100));
        Check.due("4: on the first day", 100, () -> x.spare(10, 0, 1));
        Check.due("4: on the last day", 100, () -> x.spare(20, 0, 1));
        Check.due("4: outside its span still none", 0, () -> x.spare(21, 0, 1));
        Check.due("4: the other right is as it was", 6, () -> x.spare(10, 1, 1));
        Check.due("4: none at all", 100, () -> x.setUnits(0, 0));
        Check.due("4: a right of 0 units gives none", 0, () -> x.spare(10, 0, 1));
        Check.due("4: 0 units before", 0, () -> x.setUnits(0, 1));
        Check.due("4: it gives again", 1, () -> x.spare(10, 0, 1));
    }

    private static void setUnitsRefuses() {
        RightsCounter x = new RightsCounter();
        Check.refuses("4: no right at all", Check.OUT_OF_BOUNDS, () -> x.setUnits(0, 5));
        x.addRight(1, 3, 5, 0, 720);
        Check.refuses("4: no such right", Check.OUT_OF_BOUNDS, () -> x.setUnits(1, 5));
        Check.refuses("4: right -1", Check.OUT_OF_BOUNDS, () -> x.setUnits(-1, 5));
        Check.refuses("4: the right comes first", Check.OUT_OF_BOUNDS, () -> x.setUnits(10, -1));
        Check.refuses("4: units -1", Check.ARGUMENT, () -> x.setUnits(0, -1));
        Check.refuses("4: units 101", Check.ARGUMENT, () -> x.setUnits(0, 101));
        Check.due("4: a refused setUnits changes nothing", 5, () -> x.setUnits(0, 6));
    }

    private static void rightsCounts() {
        RightsCounter x = new RightsCounter();
        for (int right = 0; right < 10; right++) {
            int r = right;
            Check.due("5: rights", r, () -> x.rights());
            x.addRight(1, 1, 1, 0, 720);
        }
        x.setUnits(3, 0);
        Check.due("5: one without units counts too", 10, () -> x.rights());
    }
}
