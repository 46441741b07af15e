/** The example of README.md. */
public final class ReadmeTest {
    public static void main(String[] args) {
        RightsCounter counter = new RightsCounter();
        int host = counter.addMachine(16, RightsCounter.NONE);
        int guest = counter.addMachine(4, host);
        counter.install(guest, 0, 3, 10);
        counter.addRight(0b00011, 5, 12, 0, 720);
        Check.due("need", 3, () -> counter.need(10, 0));
        Check.due("demand", 16, () -> counter.demand(10, 0));
        Check.due("gets", 12, () -> counter.gets(10, 0));
        Check.due("lack", 4, () -> counter.lack(10));
        Check.due("tellApart", 1, () -> counter.tellApart(guest, true));
        Check.due("lack, told apart", 0, () -> counter.lack(10));
        Check.due("spare", 8, () -> counter.spare(10, 1, 5));
        Check.due("most", 4, () -> counter.most(0, 0));
        Check.end();
    }
}
