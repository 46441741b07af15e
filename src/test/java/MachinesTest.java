/** Promises 6 to 10: addMachine, setCores, tellApart, setCoresOfUnit, machines. */
public final class MachinesTest {
    private static final int NONE = RightsCounter.NONE;

    public static void main(String[] args) {
        addMachineNumbersAndKeeps();
        addMachineRefuses();
        addMachineRefusesTheNinth();
        setCoresOnAllDays();
        setCoresRefuses();
        tellApartAnswersTheOneItCountsBy();
        tellApartMovesNeeds();
        tellApartRefuses();
        setCoresOfUnitRoundsUp();
        setCoresOfUnitRefuses();
        machinesCounts();
        Check.end();
    }

    private static void addMachineNumbersAndKeeps() {
        RightsCounter x = new RightsCounter();
        Check.due("6: first", 0, () -> x.addMachine(1, NONE));
        Check.due("6: second", 1, () -> x.addMachine(64, NONE));
        Check.due("6: third, within the second", 2, () -> x.addMachine(7, 1));
        Check.due("6: its cores", 1, () -> x.setCores(0, 1));
        Check.due("6: its cores", 64, () -> x.setCores(1, 64));
        Check.due("6: its cores", 7, () -> x.setCores(2, 7));
        Check.due("6: not told apart at first", 1, () -> x.tellApart(2, false));
        x.addMachine(9, 0);
        x.install(3, 0, 2, 5);
        Check.due("6: it counts by its host at first", 2, () -> x.need(5, 0));
    }

    private static void addMachineRefuses() {
        RightsCounter x = new RightsCounter();
        Check.refuses("6: no host yet", Check.OUT_OF_BOUNDS, () -> x.addMachine(1, 0));
        Check.refuses("6: host -2", Check.OUT_OF_BOUNDS, () -> x.addMachine(1, -2));
        Check.refuses("6: cores 0", Check.ARGUMENT, () -> x.addMachine(0, NONE));
        Check.refuses("6: cores 65", Check.ARGUMENT, () -> x.addMachine(65, NONE));
        Check.refuses("6: cores -1", Check.ARGUMENT, () -> x.addMachine(-1, NONE));
        Check.refuses("6: the host comes first", Check.OUT_OF_BOUNDS, () -> x.addMachine(0, 0));
        x.addMachine(1, NONE);
        Check.refuses("6: its own host", Check.OUT_OF_BOUNDS, () -> x.addMachine(1, 1));
        Check.refuses("6: a far host", Check.OUT_OF_BOUNDS, () -> x.addMachine(1, Integer.MAX_VALUE));
        Check.refuses("6: a far host", Check.OUT_OF_BOUNDS, () -> x.addMachine(1, Integer.MIN_VALUE));
        Check.due("6: refused machines are not added", 1, () -> x.machines());
    }

    private static void addMachineRefusesTheNinth() {
        RightsCounter x = new RightsCounter();
        for (int machine = 0; machine < 8; machine++) {
            int m = machine;
            Check.due("6: machine " + m, m, () -> x.addMachine(1, m - 1));
        }
        Check.refuses("6: the ninth", Check.STATE, () -> x.addMachine(1, NONE));
        Check.refuses("6: the ninth, with a host", Check.STATE, () -> x.addMachine(1, 7));
        Check.refuses("6: arguments come first", Check.ARGUMENT, () -> x.addMachine(0, 7));
        Check.refuses("6: the host comes first of all", Check.OUT_OF_BOUNDS, () -> x.addMachine(1, 8));
        Check.due("6: eight stay", 8, () -> x.machines());
        Check.due("6: a chain of eight counts by the first", 0, () -> x.tellApart(7, false));
    }

    private static void setCoresOnAllDays() {
        RightsCounter x = new RightsCounter();
        x.addMachine(10, NONE);
        x.addMachine(20, NONE);
        x.install(0, 0, 1, 0);
        x.install(1, 0, 1, 0);
        Check.due("7: setCores answers the cores before", 10, () -> x.setCores(0, 64));
        Check.due("7: on the first day", 64, () -> x.demand(0, 0));
        Check.due("7: on the last day", 64, () -> x.demand(720, 0));
        Check.due("7: the other machine is as it was", 20, () -> x.demand(0, 1));
        Check.due("7: the cores before again", 64, () -> x.setCores(0, 1));
        Check.due("7: fewer cores", 1, () -> x.demand(300, 0));
    }

    private static void setCoresRefuses() {
        RightsCounter x = new RightsCounter();
        Check.refuses("7: no machine at all", Check.OUT_OF_BOUNDS, () -> x.setCores(0, 1));
        x.addMachine(10, NONE);
        Check.refuses("7: no such machine", Check.OUT_OF_BOUNDS, () -> x.setCores(1, 1));
        Check.refuses("7: machine -1", Check.OUT_OF_BOUNDS, () -> x.setCores(-1, 1));
        Check.refuses("7: the machine comes first", Check.OUT_OF_BOUNDS, () -> x.setCores(1, 0));
        Check.refuses("7: cores 0", Check.ARGUMENT, () -> x.setCores(0, 0));
        Check.refuses("7: cores 65", Check.ARGUMENT, () -> x.setCores(0, 65));
        Check.due("7: a refused setCores changes nothing", 10, () -> x.setCores(0, 2));
    }

    private static void tellApartAnswersTheOneItCountsBy() {
        RightsCounter x = new RightsCounter();
        x.addMachine(1, NONE);
        x.addMachine(1, 0);
        x.addMachine(1, 1);
        x.addMachine(1, 2);
        Check.due("8: by the outermost", 0, () -> x.tellApart(3, false));
        Check.due("8: by itself", 2, () -> x.tellApart(2, true));
        Check.due("8: by the host that is told apart", 2, () -> x.tellApart(3, false));
        Check.due("8: told apart twice", 2, () -> x.tellApart(2, true));
        Check.due("8: by itself too", 3, () -> x.tellApart(3, true));
        Check.due("8: taken back", 0, () -> x.tellApart(2, false));
        Check.due("8: the inner one stays apart", 3, () -> x.tellApart(3, true));
        Check.due("8: between", 1, () -> x.tellApart(1, true));
        Check.due("8: by the one between", 1, () -> x.tellApart(3, false));
        Check.due("8: without a host, told apart", 0, () -> x.tellApart(0, true));
        Check.due("8: without a host, not told apart", 0, () -> x.tellApart(0, false));
    }

    private static void tellApartMovesNeeds() {
        RightsCounter x = new RightsCounter();
        x.addMachine(4, NONE);
        x.addMachine(9, 0);
        x.install(1, 2, 6, 100);
        Check.due("8: counted by the host", 26, () -> x.need(100, 0));
        Check.due("8: with the host's cores", 4, () -> x.demand(720, 0));
        x.tellApart(1, true);
        Check.due("8: counted by itself", 126, () -> x.need(100, 0));
        Check.due("8: on all days", 126, () -> x.need(720, 0));
        Check.due("8: with its own cores", 9, () -> x.demand(100, 0));
        x.tellApart(1, false);
        Check.due("8: counted by the host again", 26, () -> x.need(100, 0));
    }

    private static void tellApartRefuses() {
        RightsCounter x = new RightsCounter();
        Check.refuses("8: no machine at all", Check.OUT_OF_BOUNDS, () -> x.tellApart(0, true));
        x.addMachine(1, NONE);
        Check.refuses("8: no such machine", Check.OUT_OF_BOUNDS, () -> x.tellApart(1, false));
        Check.refuses("8: machine -1", Check.OUT_OF_BOUNDS, () -> x.tellApart(-1, true));
    }

    private static void setCoresOfUnitRoundsUp() {
        RightsCounter x = new RightsCounter();
        x.addMachine(17, NONE);
        x.install(0, 3, 1, 0);
        x.install(0, 4, 1, 0);
        Check.due("9: one core at first", 17, () -> x.demand(0, 0));
        Check.due("9: setCoresOfUnit answers the number before", 1, () -> x.setCoresOfUnit(3, 16));
        Check.due("9: rounded up", 2, () -> x.demand(0, 0));
        Check.due("9: the other product is as it was", 17, () -> x.demand(0, 1));
        Check.due("9: the number before", 16, () -> x.setCoresOfUnit(3, 4));
        Check.due("9: rounded up again", 5, () -> x.demand(0, 0));
        x.setCores(0, 16);
        Check.due("9: nothing to round", 4, () -> x.demand(0, 0));
        x.setCores(0, 1);
        Check.due("9: at least one", 1, () -> x.demand(0, 0));
        Check.due("9: back to one", 4, () -> x.setCoresOfUnit(3, 1));
        Check.due("9: product 0", 1, () -> x.setCoresOfUnit(0, 2));
    }

    private static void setCoresOfUnitRefuses() {
        RightsCounter x = new RightsCounter();
        Check.refuses("9: product -1", Check.OUT_OF_BOUNDS, () -> x.setCoresOfUnit(-1, 1));
        Check.refuses("9: product 5", Check.OUT_OF_BOUNDS, () -> x.setCoresOfUnit(5, 1));
        Check.refuses("9: the product comes first", Check.OUT_OF_BOUNDS, () -> x.setCoresOfUnit(5, 0));
        Check.refuses("9: cores 0", Check.ARGUMENT, () -> x.setCoresOfUnit(0, 0));
        Check.refuses("9: cores 17", Check.ARGUMENT, () -> x.setCoresOfUnit(4, 17));
        Check.refuses("9: cores -1", Check.ARGUMENT, () -> x.setCoresOfUnit(0, -1));
        Check.due("9: a refused setCoresOfUnit changes nothing", 1, () -> x.setCoresOfUnit(4, 2));
    }

    private static void machinesCounts() {
        RightsCounter x = new RightsCounter();
        for (int machine = 0; machine < 8; machine++) {
            int m = machine;
            Check.due("10: machines", m, () -> x.machines());
            x.addMachine(1, m == 5 ? 2 : NONE);
        }
        Check.due("10: eight, those within others too", 8, () -> x.machines());
    }
}
