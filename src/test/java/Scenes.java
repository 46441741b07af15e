/** Objects that tests begin with; each call makes a new one. */
final class Scenes {
    /** No scene makes more calls than these. */
    static final int MOST_CALLS = 60;
    static final int NONE = RightsCounter.NONE;

    interface Scene {
        RightsCounter make();
    }

    private Scenes() {
    }

    static RightsCounter empty() {
        return new RightsCounter();
    }

    /** Three rights, four machines (1 told apart from 0, 2 within 1), and what runs on them. */
    static RightsCounter some() {
        RightsCounter x = new RightsCounter();
        x.addMachine(10, NONE);
        x.addMachine(7, 0);
        x.addMachine(5, 1);
        x.addMachine(64, NONE);
        x.tellApart(1, true);
        x.setCoresOfUnit(1, 4);
        x.addRight(0b00011, 5, 12, 0, 720);
        x.addRight(0b00110, 7, 9, 10, 50);
        x.addRight(0b10000, 9, 100, 50, 50);
        x.install(0, 0, 3, 0);
        x.uninstall(0, 0, 60);
        x.install(0, 0, 5, 100);
        x.install(1, 1, 4, 5);
        x.install(2, 1, 6, 7);
        x.install(3, 4, 9, 50);
        x.uninstall(3, 4, 719);
        x.install(3, 2, 1, 720);
        return x;
    }

    /** Ten rights, eight machines, product 0 installed ten times on machine 0; days 50 and later have 11 needs. */
    static RightsCounter full() {
        RightsCounter x = new RightsCounter();
        for (int machine = 0; machine < 8; machine++) {
            x.addMachine(8 * machine + 8, machine < 4 ? NONE : machine - 4);
        }
        x.tellApart(4, true);
        for (int right = 0; right < 10; right++) {
            x.addRight(right + 1, right % 9 + 1, 10 * right + 10, 10 * (right / 3), 720 - right);
        }
        for (int time = 1; time <= 10; time++) {
            x.install(0, 0, time % 9 + 1, time);
        }
        for (int product = 0; product < 5; product++) {
            x.install(5, product, product + 1, 10);
            x.install(6, product, 9 - product, 50);
        }
        return x;
    }

    /** As many machines as cores are given; product 0 runs on each from day 0 on, in the version 5. */
    static RightsCounter withCores(int... cores) {
        RightsCounter x = new RightsCounter();
        for (int machine = 0; machine < cores.length; machine++) {
            x.addMachine(cores[machine], NONE);
            x.install(machine, 0, 5, 0);
        }
        return x;
    }

    /** As many machines as are asked for, none within another one, with nothing that runs there. */
    static RightsCounter withMachines(int count) {
        RightsCounter x = new RightsCounter();
        for (int machine = 0; machine < count; machine++) {
            x.addMachine(1, NONE);
        }
        return x;
    }

    /** Five products on each machine, of one core each: as many needs as are asked for, by machines. */
    static RightsCounter withNeeds(int count) {
        RightsCounter x = withMachines(8);
        for (int need = 0; need < count; need++) {
            x.install(need / 5, need % 5, 5, 0);
        }
        return x;
    }

    /** As many rights as are asked for, each of one unit, for all products up to the version 5. */
    static RightsCounter withRights(int count) {
        RightsCounter x = new RightsCounter();
        for (int right = 0; right < count; right++) {
            x.addRight(31, 5, 1, 0, 720);
        }
        return x;
    }
}
