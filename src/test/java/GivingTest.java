/** Promises 17 to 20: gets, lack, lackBySets, spare. */
public final class GivingTest {
    private static final int NONE = RightsCounter.NONE;
    private static final int DAY = 100;

    public static void main(String[] args) {
        getsNoMoreThanItsDemand();
        unitsOfSeveralRightsForOneNeed();
        aUnitIsGivenOnceOnADay();
        stepsOfExchanges();
        longStepsOfExchanges();
        exchangeMovesOnlyWhatIsThere();
        exchangeIsNoWiderThanItsNarrowestStep();
        exchangedUnitsAreExchangedAgain();
        unitsGotInTwoStepsAreExchangedTogether();
        thoseAheadKeepWhatTheyGot();
        rightsGiveByVersionAndSpan();
        getsRefuses();
        lackBySetsTriesAllSets();
        lackRefuses();
        spareBehindAllOthers();
        spareRefuses();
        Check.end();
    }

    /** Machine m has cores[m], and product m runs there with the version 5. */
    private static RightsCounter withMachines(int... cores) {
        RightsCounter x = new RightsCounter();
        for (int machine = 0; machine < cores.length; machine++) {
            x.addMachine(cores[machine], NONE);
            x.install(machine, machine, 5, DAY);
        }
        return x;
    }

    private static void dueGets(String what, RightsCounter x, int... units) {
        int lack = 0;
        for (int need = 0; need < units.length; need++) {
            int n = need;
            Check.due(what + ", gets of " + n, units[n], () -> x.gets(DAY, n));
            lack += x.demand(DAY, n) - units[n];
        }
        Check.due(what + ", lack", lack, () -> x.lack(DAY));
        Check.due(what + ", lackBySets", lack, () -> x.lackBySets(DAY));
    }

    private static void getsNoMoreThanItsDemand() {
        RightsCounter x = withMachines(4);
        dueGets("17: no rights", x, 0);
        x.addRight(1, 5, 3, DAY, DAY);
        dueGets("17: too few units", x, 3);
        x.setUnits(0, 4);
        dueGets("17: just enough", x, 4);
        x.setUnits(0, 100);
        dueGets("17: more than enough", x, 4);
        x.setUnits(0, 0);
        dueGets("17: a right of 0 units", x, 0);
    }

    private static void unitsOfSeveralRightsForOneNeed() {
        RightsCounter x = withMachines(10);
        x.addRight(1, 9, 2, 0, 720);
        x.addRight(3, 5, 3, 0, 720);
        x.addRight(2, 9, 50, 0, 720);
        x.addRight(31, 6, 4, 0, 720);
        dueGets("17: of several rights", x, 9);
    }

    private static void aUnitIsGivenOnceOnADay() {
        RightsCounter x = withMachines(4, 4, 4);
        x.addRight(7, 9, 10, 0, 720);
        dueGets("17: one right for three needs", x, 4, 4, 2);
        Check.due("17: the next day gives anew", 4, () -> x.gets(DAY + 1, 0));
        Check.due("17: and the day before is as it was", 2, () -> x.gets(DAY, 2));
    }

    private static void stepsOfExchanges() {
        RightsCounter x = withMachines(4, 4);
        x.addRight(3, 9, 4, 0, 720);
        x.addRight(1, 9, 4, 0, 720);
        dueGets("17: the first gives way", x, 4, 4);
        RightsCounter y = withMachines(4, 4);
        y.addRight(1, 9, 4, 0, 720);
        y.addRight(3, 9, 4, 0, 720);
        dueGets("17: with the rights the other way round", y, 4, 4);
    }

    private static void longStepsOfExchanges() {
        RightsCounter x = withMachines(6, 6, 6, 6, 6);
        x.addRight(1 + 2, 9, 6, 0, 720);
        x.addRight(2 + 4, 9, 6, 0, 720);
        x.addRight(4 + 8, 9, 6, 0, 720);
        x.addRight(8 + 16, 9, 6, 0, 720);
        x.addRight(1, 9, 4, 0, 720);
        dueGets("17: four exchanges in a row", x, 6, 6, 6, 6, 4);
        x.setUnits(4, 6);
        dueGets("17: all that is there", x, 6, 6, 6, 6, 6);
        x.setUnits(2, 1);
        dueGets("17: a narrow right between", x, 6, 6, 6, 6, 1);
    }

    private static void exchangeMovesOnlyWhatIsThere() {
        RightsCounter x = withMachines(3, 9, 9);
        x.addRight(1 + 4, 9, 8, 0, 720);
        x.addRight(2, 9, 9, 0, 720);
        x.addRight(1, 9, 20, 0, 720);
        dueGets("17: no more than the first has of it", x, 3, 9, 8);
        x.addRight(2 + 4, 9, 5, 0, 720);
        dueGets("17: with one right more", x, 3, 9, 9);
    }

    private static void exchangeIsNoWiderThanItsNarrowestStep() {
        RightsCounter x = withMachines(6, 6, 9);
        x.addRight(2 + 4, 9, 2, 0, 720);
        x.addRight(1 + 2, 9, 10, 0, 720);
        x.addRight(1, 9, 20, 0, 720);
        dueGets("17: a narrow step, then a wide one", x, 6, 6, 2);
    }

    private static void exchangedUnitsAreExchangedAgain() {
        RightsCounter x = withMachines(6, 4, 6);
        x.addRight(1 + 2, 9, 4, 0, 720);
        x.addRight(1 + 4, 9, 6, 0, 720);
        x.addRight(1, 9, 6, 0, 720);
        dueGets("17: the first gives way twice", x, 6, 4, 6);
    }

    private static void unitsGotInTwoStepsAreExchangedTogether() {
        RightsCounter x = withMachines(4, 4, 8, 8, 8);
        x.addRight(1 + 2 + 8 + 16, 9, 8, 0, 720);
        x.addRight(4 + 8, 9, 8, 0, 720);
        x.addRight(1, 9, 4, 0, 720);
        x.addRight(2, 9, 4, 0, 720);
        x.addRight(4, 9, 8, 0, 720);
        dueGets("17: units of two that gave way", x, 4, 4, 8, 8, 8);
    }

    private static void thoseAheadKeepWhatTheyGot() {
        RightsCounter x = withMachines(8, 8);
        x.addRight(3, 9, 8, 0, 720);
        dueGets("17: the first comes first", x, 8, 0);
        x.setCores(0, 2);
        dueGets("17: and leaves what it does not need", x, 2, 6);
    }

    private static void rightsGiveByVersionAndSpan() {
        RightsCounter x = withMachines(8);
        x.addRight(1, 4, 8, 0, 720);
        dueGets("17: a version too low", x, 0);
        x.upgrade(0, 5);
        dueGets("17: upgraded", x, 8);
        RightsCounter y = withMachines(8);
        y.addRight(1, 9, 3, DAY + 1, DAY + 2);
        y.addRight(1, 9, 2, 0, DAY);
        Check.due("17: the second alone", 2, () -> y.gets(DAY, 0));
        Check.due("17: the first, on its first day", 3, () -> y.gets(DAY + 1, 0));
        Check.due("17: the first, on its last day", 3, () -> y.gets(DAY + 2, 0));
        Check.due("17: behind it", 0, () -> y.gets(DAY + 3, 0));
        Check.due("18: behind it", 8, () -> y.lack(DAY + 3));
        Check.due("19: behind it", 8, () -> y.lackBySets(DAY + 3));
        Check.due("18: ahead of all", 0, () -> y.lack(0));
        Check.due("19: ahead of all", 0, () -> y.lackBySets(0));
    }

    private static void getsRefuses() {
        RightsCounter x = withMachines(8);
        for (int day : new int[] {-1, 721, Integer.MIN_VALUE, Integer.MAX_VALUE}) {
            Check.refuses("17: day " + day, Check.ARGUMENT, () -> x.gets(day, 0));
            Check.refuses("17: the day comes first", Check.ARGUMENT, () -> x.gets(day, -1));
        }
        for (int need : new int[] {-1, 1, 40, 41, Integer.MIN_VALUE, Integer.MAX_VALUE}) {
            Check.refuses("17: need " + need, Check.OUT_OF_BOUNDS, () -> x.gets(DAY, need));
        }
        Check.refuses("17: a day without needs", Check.OUT_OF_BOUNDS, () -> x.gets(DAY - 1, 0));
    }

    private static void lackBySetsTriesAllSets() {
        RightsCounter x = withMachines(10, 1, 10);
        x.addRight(1, 9, 4, 0, 720);
        x.addRight(2, 9, 100, 0, 720);
        x.addRight(4, 9, 7, 0, 720);
        Check.due("19: the first and the last of three", 9, () -> x.lackBySets(DAY));
        Check.due("18: the same", 9, () -> x.lack(DAY));
        RightsCounter z = withMachines(1, 10, 9);
        z.addRight(1, 9, 100, 0, 720);
        z.addRight(2 + 4, 9, 7, 0, 720);
        z.addRight(4, 9, 3, 0, 720);
        Check.due("19: the set without the first", 9, () -> z.lackBySets(DAY));
        RightsCounter y = new RightsCounter();
        for (int machine = 0; machine < 2; machine++) {
            y.addMachine(9, NONE);
            for (int product = 0; product < 5; product++) {
                y.install(machine, product, 1, DAY);
            }
        }
        Check.due("19: ten needs without rights", 90, () -> y.lackBySets(DAY));
        y.addRight(16, 1, 18, 0, 720);
        Check.due("19: without both of product 4", 72, () -> y.lackBySets(DAY));
        y.addMachine(1, NONE);
        y.install(2, 4, 1, DAY + 1);
        Check.due("19: ten still", 72, () -> y.lackBySets(DAY));
        Check.refuses("19: eleven needs", Check.STATE, () -> y.lackBySets(DAY + 1));
        Check.due("18: eleven needs", 73, () -> y.lack(DAY + 1));
    }

    private static void lackRefuses() {
        RightsCounter x = withMachines(8);
        for (int day : new int[] {-1, 721, Integer.MIN_VALUE, Integer.MAX_VALUE}) {
            Check.refuses("18: day " + day, Check.ARGUMENT, () -> x.lack(day));
            Check.refuses("19: day " + day, Check.ARGUMENT, () -> x.lackBySets(day));
        }
    }

    private static void spareBehindAllOthers() {
        RightsCounter x = withMachines(4, 4);
        x.addRight(3, 9, 4, 0, 720);
        x.addRight(1, 7, 9, 0, 720);
        Check.due("20: what the first leaves", 5, () -> x.spare(DAY, 0, 7));
        Check.due("20: for a version above", 0, () -> x.spare(DAY, 0, 8));
        Check.due("20: the second has taken all", 0, () -> x.spare(DAY, 1, 5));
        Check.due("20: no such right", 0, () -> x.spare(DAY, 4, 1));
        Check.due("20: a day without needs", 13, () -> x.spare(DAY - 1, 0, 1));
        x.setCores(1, 1);
        Check.due("20: by exchange too", 3, () -> x.spare(DAY, 1, 9));
        Check.due("20: and of both", 8, () -> x.spare(DAY, 0, 1));
        Check.due("20: asking changes nothing", 8, () -> x.spare(DAY, 0, 1));
        dueGets("20: nor for the others", x, 4, 1);
        RightsCounter y = new RightsCounter();
        for (int right = 0; right < 10; right++) {
            y.addRight(31, 9, 100, 0, 720);
        }
        Check.due("20: all of ten rights", 1000, () -> y.spare(0, 4, 9));
    }

    private static void spareRefuses() {
        RightsCounter x = withMachines(8);
        Check.refuses("20: day -1", Check.ARGUMENT, () -> x.spare(-1, 0, 1));
        Check.refuses("20: day 721", Check.ARGUMENT, () -> x.spare(721, 0, 1));
        Check.refuses("20: version 0", Check.ARGUMENT, () -> x.spare(0, 0, 0));
        Check.refuses("20: version 10", Check.ARGUMENT, () -> x.spare(0, 0, 10));
        Check.refuses("20: product -1", Check.OUT_OF_BOUNDS, () -> x.spare(0, -1, 1));
        Check.refuses("20: product 5", Check.OUT_OF_BOUNDS, () -> x.spare(0, 5, 1));
        Check.refuses("20: the day comes ahead of the product", Check.ARGUMENT, () -> x.spare(721, 5, 1));
        Check.refuses("20: so does the version", Check.ARGUMENT, () -> x.spare(0, 5, 10));
    }
}
