/** Promises 11 to 13: install, uninstall, runs. */
public final class RunningTest {
    private static final int NONE = RightsCounter.NONE;

    public static void main(String[] args) {
        installCountsAndRuns();
        installRefusesArguments();
        installRefusesDaysBehind();
        installRefusesTheEleventh();
        uninstallEndsTheRun();
        uninstallRefusesArguments();
        uninstallRefusesStates();
        runsOnTheMachineItself();
        runsRefuses();
        Check.end();
    }

    private static RightsCounter withMachines(int count) {
        RightsCounter x = new RightsCounter();
        for (int machine = 0; machine < count; machine++) {
            x.addMachine(1, NONE);
        }
        return x;
    }

    private static void dueVersions(String what, RightsCounter x, int[][] daysAndVersions) {
        for (int[] pair : daysAndVersions) {
            Check.due(what + ", day " + pair[0], pair[1], () -> x.runs(0, 0, pair[0]));
        }
    }

    private static void installCountsAndRuns() {
        RightsCounter x = withMachines(2);
        Check.due("11: first", 1, () -> x.install(0, 0, 5, 10));
        Check.due("11: another product counts for itself", 1, () -> x.install(0, 1, 9, 0));
        Check.due("11: another machine counts for itself", 1, () -> x.install(1, 0, 9, 0));
        Check.due("11: second, over the first", 2, () -> x.install(0, 0, 3, 11));
        dueVersions("11: two versions", x, new int[][] {{0, 0}, {9, 0}, {10, 5}, {11, 3}, {12, 3}, {720, 3}});
        x.uninstall(0, 0, 20);
        Check.due("11: third, behind an end", 3, () -> x.install(0, 0, 5, 30));
        dueVersions("11: with a gap", x, new int[][] {{19, 3}, {20, 0}, {29, 0}, {30, 5}, {720, 5}});
        Check.due("11: on the last day", 4, () -> x.install(0, 0, 1, 720));
        dueVersions("11: the last day", x, new int[][] {{719, 5}, {720, 1}});
        Check.due("11: the same version again", 2, () -> x.install(1, 0, 9, 1));
    }

    private static void installRefusesArguments() {
        RightsCounter x = withMachines(1);
        Check.refuses("11: no such machine", Check.OUT_OF_BOUNDS, () -> x.install(1, 0, 1, 0));
        Check.refuses("11: machine -1", Check.OUT_OF_BOUNDS, () -> x.install(-1, 0, 1, 0));
        Check.refuses("11: product -1", Check.OUT_OF_BOUNDS, () -> x.install(0, -1, 1, 0));
        Check.refuses("11: product 5", Check.OUT_OF_BOUNDS, () -> x.install(0, 5, 1, 0));
        Check.refuses("11: bounds come first", Check.OUT_OF_BOUNDS, () -> x.install(1, 0, 0, -1));
        Check.refuses("11: bounds come first", Check.OUT_OF_BOUNDS, () -> x.install(0, 5, 0, -1));
        Check.refuses("11: version 0", Check.ARGUMENT, () -> x.install(0, 0, 0, 0));
        Check.refuses("11: version 10", Check.ARGUMENT, () -> x.install(0, 0, 10, 0));
        Check.refuses("11: day -1", Check.ARGUMENT, () -> x.install(0, 0, 1, -1));
        Check.refuses("11: day 721", Check.ARGUMENT, () -> x.install(0, 0, 1, 721));
        Check.due("11: refused installs do not count", 1, () -> x.install(0, 0, 1, 0));
    }

    private static void installRefusesDaysBehind() {
        RightsCounter x = withMachines(1);
        x.install(0, 0, 4, 10);
        Check.refuses("11: on the same day", Check.STATE, () -> x.install(0, 0, 5, 10));
        Check.refuses("11: on a day ahead", Check.STATE, () -> x.install(0, 0, 5, 9));
        Check.refuses("11: arguments come first", Check.ARGUMENT, () -> x.install(0, 0, 10, 9));
        x.uninstall(0, 0, 20);
        Check.refuses("11: ahead of the end", Check.STATE, () -> x.install(0, 0, 5, 15));
        Check.refuses("11: on the day of the end", Check.STATE, () -> x.install(0, 0, 5, 20));
        dueVersions("11: nothing changed", x, new int[][] {{9, 0}, {10, 4}, {15, 4}, {19, 4}, {20, 0}, {720, 0}});
        Check.due("11: behind the end", 2, () -> x.install(0, 0, 5, 21));
        RightsCounter y = withMachines(1);
        y.install(0, 0, 4, 0);
        Check.refuses("11: day 0 twice", Check.STATE, () -> y.install(0, 0, 4, 0));
        Check.due("11: day 1", 2, () -> y.install(0, 0, 4, 1));
    }

    private static void installRefusesTheEleventh() {
        RightsCounter x = withMachines(1);
        for (int time = 1; time <= 10; time++) {
            int t = time;
            Check.due("11: time " + t, t, () -> x.install(0, 0, t % 9 + 1, t));
        }
        Check.refuses("11: the eleventh", Check.STATE, () -> x.install(0, 0, 1, 100));
        Check.due("11: the tenth still runs", 2, () -> x.runs(0, 0, 100));
        Check.due("12: the tenth can end", 2, () -> x.uninstall(0, 0, 50));
        Check.refuses("11: the eleventh, behind an end", Check.STATE, () -> x.install(0, 0, 1, 100));
        for (int time = 1; time <= 10; time++) {
            int t = time;
            Check.due("13: each of ten, day " + t, t % 9 + 1, () -> x.runs(0, 0, t));
        }
        Check.due("11: another product is free", 1, () -> x.install(0, 1, 1, 100));
    }

    private static void uninstallEndsTheRun() {
        RightsCounter x = withMachines(2);
        x.install(0, 0, 5, 10);
        x.install(0, 0, 7, 15);
        x.install(0, 1, 2, 10);
        x.install(1, 0, 3, 10);
        Check.due("12: answers the version that ran", 7, () -> x.uninstall(0, 0, 20));
        dueVersions("12: to the day of the end", x, new int[][] {{10, 5}, {14, 5}, {15, 7}, {19, 7}, {20, 0}, {720, 0}});
        Check.due("12: another product runs on", 2, () -> x.runs(0, 1, 20));
        Check.due("12: another machine runs on", 3, () -> x.runs(1, 0, 20));
        Check.due("12: the day after it was installed", 3, () -> x.uninstall(1, 0, 11));
        Check.due("12: it ran for a day", 3, () -> x.runs(1, 0, 10));
        Check.due("12: on the last day", 2, () -> x.uninstall(0, 1, 720));
        Check.due("12: the last day is not included", 2, () -> x.runs(0, 1, 719) + x.runs(0, 1, 720));
    }

    private static void uninstallRefusesArguments() {
        RightsCounter x = withMachines(1);
        x.install(0, 0, 5, 10);
        Check.refuses("12: no such machine", Check.OUT_OF_BOUNDS, () -> x.uninstall(1, 0, 20));
        Check.refuses("12: machine -1", Check.OUT_OF_BOUNDS, () -> x.uninstall(-1, 0, 20));
        Check.refuses("12: product -1", Check.OUT_OF_BOUNDS, () -> x.uninstall(0, -1, 20));
        Check.refuses("12: product 5", Check.OUT_OF_BOUNDS, () -> x.uninstall(0, 5, 20));
        Check.refuses("12: bounds come first", Check.OUT_OF_BOUNDS, () -> x.uninstall(0, 5, 721));
        Check.refuses("12: day -1", Check.ARGUMENT, () -> x.uninstall(0, 0, -1));
        Check.refuses("12: day 721", Check.ARGUMENT, () -> x.uninstall(0, 0, 721));
        Check.refuses("12: the day comes ahead of the state", Check.ARGUMENT, () -> x.uninstall(0, 1, 721));
        Check.due("12: nothing changed", 5, () -> x.runs(0, 0, 720));
    }

    private static void uninstallRefusesStates() {
        RightsCounter x = withMachines(1);
        Check.refuses("12: never installed", Check.STATE, () -> x.uninstall(0, 0, 20));
        x.install(0, 0, 5, 10);
        Check.refuses("12: installed on this day", Check.STATE, () -> x.uninstall(0, 0, 10));
        Check.refuses("12: installed on a later day", Check.STATE, () -> x.uninstall(0, 0, 5));
        Check.refuses("12: another product was not", Check.STATE, () -> x.uninstall(0, 1, 20));
        x.uninstall(0, 0, 20);
        Check.refuses("12: uninstalled on this day", Check.STATE, () -> x.uninstall(0, 0, 20));
        Check.refuses("12: uninstalled already", Check.STATE, () -> x.uninstall(0, 0, 30));
        Check.refuses("12: uninstalled on a later day", Check.STATE, () -> x.uninstall(0, 0, 15));
        dueVersions("12: nothing changed", x, new int[][] {{14, 5}, {15, 5}, {19, 5}, {20, 0}, {30, 0}});
        x.install(0, 0, 6, 40);
        Check.refuses("12: installed again on a later day", Check.STATE, () -> x.uninstall(0, 0, 30));
        Check.due("12: since then it can end again", 6, () -> x.uninstall(0, 0, 41));
    }

    private static void runsOnTheMachineItself() {
        RightsCounter x = new RightsCounter();
        x.addMachine(1, NONE);
        x.addMachine(1, 0);
        x.install(1, 0, 8, 10);
        Check.due("13: on the inner machine", 8, () -> x.runs(1, 0, 10));
        Check.due("13: not on its host", 0, () -> x.runs(0, 0, 10));
        x.install(0, 0, 9, 10);
        Check.due("13: the host's version is its own", 9, () -> x.runs(0, 0, 10));
        Check.due("13: the inner one's too", 8, () -> x.runs(1, 0, 720));
        Check.due("13: no other product", 0, () -> x.runs(1, 4, 720));
    }

    private static void runsRefuses() {
        RightsCounter x = withMachines(1);
        Check.refuses("13: no such machine", Check.OUT_OF_BOUNDS, () -> x.runs(1, 0, 0));
        Check.refuses("13: machine -1", Check.OUT_OF_BOUNDS, () -> x.runs(-1, 0, 0));
        Check.refuses("13: product -1", Check.OUT_OF_BOUNDS, () -> x.runs(0, -1, 0));
        Check.refuses("13: product 5", Check.OUT_OF_BOUNDS, () -> x.runs(0, 5, 0));
        Check.refuses("13: bounds come first", Check.OUT_OF_BOUNDS, () -> x.runs(1, 0, -1));
        Check.refuses("13: bounds come first", Check.OUT_OF_BOUNDS, () -> x.runs(0, 5, -1));
        Check.refuses("13: day -1", Check.ARGUMENT, () -> x.runs(0, 0, -1));
        Check.refuses("13: day 721", Check.ARGUMENT, () -> x.runs(0, 0, 721));
    }
}
