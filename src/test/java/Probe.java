import java.util.ArrayList;
import java.util.List;

/**
 * What an object answers to a run of calls that asks for all that it holds. Two objects in the same state
 * give the same lines. The calls behind the questions change the object: some of what it holds, such as
 * the units of a right that is spent, only an answer to a change can tell.
 */
final class Probe {
    // With the calls that make a scene, and the few of the test itself, an object stays within the
    // 512 calls that it is promised for.
    private static final int MOST_LINES = 512 - Scenes.MOST_CALLS - 12;
    private static final int[] DAYS = {0, 10, 50, 720};

    private final RightsCounter x;
    private final List<String> lines = new ArrayList<>();

    private Probe(RightsCounter x) {
        this.x = x;
    }

    static List<String> of(RightsCounter x) {
        Probe probe = new Probe(x);
        probe.askCounts();
        probe.askDays();
        probe.askRuns();
        probe.askMonths();
        probe.changeWhatRuns();
        probe.changeNumbers();
        Check.holds("a probe of " + probe.lines.size() + " calls", probe.lines.size() <= MOST_LINES);
        return probe.lines;
    }

    private void put(String what, Check.Call call) {
        try {
            lines.add(what + " " + call.answer());
        } catch (RuntimeException e) {
            lines.add(what + " " + e.getClass().getSimpleName());
        }
    }

    private void askCounts() {
        put("rights", () -> x.rights());
        put("machines", () -> x.machines());
    }

    private void askDays() {
        for (int day : DAYS) {
            put("needs " + day, () -> x.needs(day));
            put("lack " + day, () -> x.lack(day));
            put("lackBySets " + day, () -> x.lackBySets(day));
            int needs = x.needs(day);
            for (int need = 0; need < needs; need++) {
                int n = need;
                put("need " + day + " " + n, () -> x.need(day, n));
                put("demand " + day + " " + n, () -> x.demand(day, n));
                put("gets " + day + " " + n, () -> x.gets(day, n));
            }
            for (int product = 0; product < 5; product++) {
                int p = product;
                put("spare " + day + " " + p, () -> x.spare(day, p, 5));
            }
        }
    }

    private void askRuns() {
        for (int machine = 0; machine < 8; machine++) {
            for (int product = 0; product < 5; product++) {
                for (int day : new int[] {10, 720}) {
                    int m = machine;
                    int p = product;
                    put("runs " + m + " " + p + " " + day, () -> x.runs(m, p, day));
                }
            }
        }
    }

    private void askMonths() {
        for (int product = 0; product < 5; product++) {
            int p = product;
            put("most " + p + " 0", () -> x.most(p, 0));
            put("most " + p + " 23", () -> x.most(p, 23));
        }
    }

    /** Where every product runs on every machine, the needs tell by which machine each one counts. */
    private void changeWhatRuns() {
        for (int machine = 0; machine < 8; machine++) {
            for (int product = 0; product < 5; product++) {
                int m = machine;
                int p = product;
                put("install " + m + " " + p, () -> x.install(m, p, 9, 720));
            }
        }
        put("needs, all installed", () -> x.needs(720));
        for (int need = 0; need < 40; need += 5) {
            int n = need;
            put("need, all installed, " + n, () -> x.need(720, n));
        }
    }

    private void changeNumbers() {
        for (int machine = 0; machine < 8; machine++) {
            int m = machine;
            put("setCores " + m, () -> x.setCores(m, 1));
        }
        for (int product = 0; product < 5; product++) {
            int p = product;
            put("setCoresOfUnit " + p, () -> x.setCoresOfUnit(p, 1));
        }
        for (int right = 0; right < 10; right++) {
            int r = right;
            put("setUnits " + r, () -> x.setUnits(r, 0));
            put("upgrade " + r, () -> x.upgrade(r, 9));
        }
        put("addRight", () -> x.addRight(31, 9, 100, 0, 720));
        put("addMachine", () -> x.addMachine(64, RightsCounter.NONE));
    }
}
