/** Promises 14 to 16 and 21: needs, need, demand, most. */
public final class NeedsTest {
    private static final int NONE = RightsCounter.NONE;

    public static void main(String[] args) {
        needsFollowTheDays();
        needsAreNumberedByMachinesThenProducts();
        greatestVersionOfThoseThatCount();
        fortyNeeds();
        demandIsOfTheCountingMachine();
        needsRefuse();
        mostOverTheDaysOfAMonth();
        mostSumsTheMachines();
        mostRefuses();
        Check.end();
    }

    private static void needsFollowTheDays() {
        RightsCounter x = new RightsCounter();
        x.addMachine(3, NONE);
        Check.due("14: none at first", 0, () -> x.needs(0));
        x.install(0, 0, 2, 10);
        x.install(0, 1, 2, 12);
        x.uninstall(0, 0, 15);
        Check.due("14: ahead of it", 0, () -> x.needs(9));
        Check.due("14: from its day on", 1, () -> x.needs(10));
        Check.due("14: two", 2, () -> x.needs(14));
        Check.due("14: the day of the end is not included", 1, () -> x.needs(15));
        Check.due("14: on the last day", 1, () -> x.needs(720));
        Check.due("15: the other moves up", 12, () -> x.need(15, 0));
    }

    private static void needsAreNumberedByMachinesThenProducts() {
        RightsCounter x = new RightsCounter();
        x.addMachine(1, NONE);
        x.addMachine(1, NONE);
        x.install(1, 0, 3, 0);
        x.install(0, 4, 9, 0);
        x.install(0, 2, 1, 0);
        x.install(1, 4, 7, 0);
        int[] due = {21, 49, 103, 147};
        for (int need = 0; need < due.length; need++) {
            int n = need;
            Check.due("15: need " + n, due[n], () -> x.need(0, n));
        }
    }

    private static void greatestVersionOfThoseThatCount() {
        RightsCounter x = new RightsCounter();
        x.addMachine(1, NONE);
        x.addMachine(1, 0);
        x.addMachine(1, 1);
        x.install(2, 0, 5, 10);
        Check.due("15: the innermost alone", 5, () -> x.need(10, 0));
        x.install(0, 0, 3, 11);
        x.install(1, 0, 7, 12);
        Check.due("14: one need for all three", 1, () -> x.needs(12));
        Check.due("15: the host's version is less", 5, () -> x.need(11, 0));
        Check.due("15: the one between is greatest", 7, () -> x.need(12, 0));
        x.uninstall(1, 0, 20);
        Check.due("15: its end gives way to the next", 5, () -> x.need(20, 0));
        x.install(2, 0, 1, 30);
        Check.due("15: a lesser version counts then", 3, () -> x.need(30, 0));
        x.tellApart(1, true);
        Check.due("14: two needs, told apart", 2, () -> x.needs(12));
        Check.due("15: the host for itself", 3, () -> x.need(12, 0));
        Check.due("15: the told apart with the one within it", 107, () -> x.need(12, 1));
    }

    private static void fortyNeeds() {
        RightsCounter x = new RightsCounter();
        for (int machine = 0; machine < 8; machine++) {
            x.addMachine(64, NONE);
            for (int product = 0; product < 5; product++) {
                x.install(machine, product, 9, 0);
            }
        }
        Check.due("14: forty", 40, () -> x.needs(0));
        Check.due("15: the last of forty", 749, () -> x.need(0, 39));
        Check.due("16: the last of forty", 64, () -> x.demand(0, 39));
        Check.refuses("15: no forty-first", Check.OUT_OF_BOUNDS, () -> x.need(0, 40));
        Check.due("18: all lack all", 40 * 64, () -> x.lack(0));
        for (int right = 0; right < 10; right++) {
            x.addRight(31, 9, 100, 0, 720);
        }
        Check.due("18: a thousand units less", 40 * 64 - 1000, () -> x.lack(0));
        Check.due("17: the last that gets some", 1000 - 15 * 64, () -> x.gets(0, 15));
        Check.due("17: the last of forty gets none", 0, () -> x.gets(0, 39));
        Check.due("20: none is spare", 0, () -> x.spare(0, 0, 1));
        Check.refuses("19: too many sets", Check.STATE, () -> x.lackBySets(0));
        Check.due("21: of one product", 8 * 64, () -> x.most(4, 23));
        for (int machine = 0; machine < 8; machine++) {
            x.setCores(machine, 1);
        }
        Check.due("18: forty of one unit each", 0, () -> x.lack(0));
        Check.due("20: behind all forty", 1000 - 40, () -> x.spare(0, 4, 9));
        Check.due("17: the last of forty, served again", 1, () -> x.gets(0, 39));
    }

    private static void demandIsOfTheCountingMachine() {
        RightsCounter x = new RightsCounter();
        x.addMachine(5, NONE);
        x.addMachine(30, 0);
        x.install(1, 3, 1, 0);
        Check.due("16: the host's cores", 5, () -> x.demand(0, 0));
        x.setCoresOfUnit(3, 2);
        Check.due("16: rounded up", 3, () -> x.demand(0, 0));
        x.setCoresOfUnit(3, 5);
        Check.due("16: nothing to round", 1, () -> x.demand(0, 0));
        x.setCoresOfUnit(3, 16);
        Check.due("16: less than one", 1, () -> x.demand(0, 0));
        x.tellApart(1, true);
        Check.due("16: its own cores, rounded up", 2, () -> x.demand(0, 0));
    }

    private static void needsRefuse() {
        RightsCounter x = new RightsCounter();
        x.addMachine(5, NONE);
        x.install(0, 0, 1, 10);
        for (int day : new int[] {-1, 721, Integer.MIN_VALUE, Integer.MAX_VALUE}) {
            Check.refuses("14: day " + day, Check.ARGUMENT, () -> x.needs(day));
            Check.refuses("15: day " + day, Check.ARGUMENT, () -> x.need(day, 0));
            Check.refuses("15: the day comes first, " + day, Check.ARGUMENT, () -> x.need(day, -1));
            Check.refuses("16: day " + day, Check.ARGUMENT, () -> x.demand(day, 0));
            Check.refuses("16: the day comes first, " + day, Check.ARGUMENT, () -> x.demand(day, 99));
        }
        for (int need : new int[] {-1, 1, 40, 41, Integer.MIN_VALUE, Integer.MAX_VALUE}) {
            Check.refuses("15: need " + need, Check.OUT_OF_BOUNDS, () -> x.need(10, need));
            Check.refuses("16: need " + need, Check.OUT_OF_BOUNDS, () -> x.demand(10, need));
        }
        Check.refuses("15: a day without needs", Check.OUT_OF_BOUNDS, () -> x.need(9, 0));
        Check.refuses("16: a day without needs", Check.OUT_OF_BOUNDS, () -> x.demand(9, 0));
    }

    private static void mostOverTheDaysOfAMonth() {
        RightsCounter x = new RightsCounter();
        x.addMachine(5, NONE);
        x.install(0, 1, 1, 59);
        x.uninstall(0, 1, 60);
        Check.due("21: ahead of it", 0, () -> x.most(1, 0));
        Check.due("21: the last day of month 1", 5, () -> x.most(1, 1));
        Check.due("21: the day of its end is in month 2", 0, () -> x.most(1, 2));
        x.install(0, 1, 1, 90);
        x.uninstall(0, 1, 91);
        Check.due("21: the first day of month 3", 5, () -> x.most(1, 3));
        Check.due("21: not month 2", 0, () -> x.most(1, 2));
        Check.due("21: not month 4", 0, () -> x.most(1, 4));
        Check.due("21: no other product", 0, () -> x.most(0, 3));
        x.install(0, 1, 1, 720);
        Check.due("21: day 720 is in no month", 0, () -> x.most(1, 23));
        x.install(0, 2, 1, 719);
        Check.due("21: day 719 is the last of month 23", 5, () -> x.most(2, 23));
        x.setCoresOfUnit(2, 2);
        Check.due("21: units, not cores", 3, () -> x.most(2, 23));
    }

    private static void mostSumsTheMachines() {
        RightsCounter x = new RightsCounter();
        x.addMachine(5, NONE);
        x.addMachine(7, NONE);
        x.addMachine(20, 0);
        x.install(0, 0, 1, 1);
        x.install(2, 0, 2, 1);
        Check.due("21: the inner one counts by its host", 5, () -> x.most(0, 0));
        x.uninstall(0, 0, 10);
        x.uninstall(2, 0, 10);
        x.install(1, 0, 1, 10);
        Check.due("21: never both on one day", 7, () -> x.most(0, 0));
        x.install(0, 0, 1, 20);
        Check.due("21: both on one day", 12, () -> x.most(0, 0));
        x.tellApart(2, true);
        Check.due("21: told apart on all days", 25, () -> x.most(0, 0));
        x.setCoresOfUnit(0, 4);
        Check.due("21: each rounded for itself", 7, () -> x.most(0, 0));
        Check.due("21: the months behind", 4, () -> x.most(0, 23));
    }

    private static void mostRefuses() {
        RightsCounter x = new RightsCounter();
        Check.refuses("21: product -1", Check.OUT_OF_BOUNDS, () -> x.most(-1, 0));
        Check.refuses("21: product 5", Check.OUT_OF_BOUNDS, () -> x.most(5, 0));
        Check.refuses("21: the product comes first", Check.OUT_OF_BOUNDS, () -> x.most(5, 24));
        Check.refuses("21: month -1", Check.ARGUMENT, () -> x.most(0, -1));
        Check.refuses("21: month 24", Check.ARGUMENT, () -> x.most(0, 24));
        Check.refuses("21: a far month", Check.ARGUMENT, () -> x.most(0, Integer.MAX_VALUE));
    }
}
