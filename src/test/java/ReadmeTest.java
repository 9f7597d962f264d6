/** The example of README.md, call by call, with the answers that it tells. */
public final class ReadmeTest {
    private static final Due DUE = new Due();

    public static void main(String[] args) {
        PathTiming t = new PathTiming();
        t.clock(20, 8);
        int a = t.register();
        int b = t.register();
        int g = t.gate(1);
        t.wire(a, 1, 0, 1, 2);
        t.wire(b, 1, 0, 2, 3);
        t.wire(g, 0, a, 1, 1);
        t.wire(b, 0, g, 0, 1);
        t.delay(a, 1, 0, 3, 4);
        t.delay(g, 0, 0, 2, 6);
        t.check(b, 0, 2, 1);
        DUE.same("ends with a timing path", t.analyse(), 1);
        DUE.same("timing paths", t.paths(), 2);
        DUE.same("arrival at the gate", t.arrival(g, 0, 0, true), 2 + 4 + 1 + 6);
        // Rise: 20 + 2 - 2 - (2 + 4 + 1 + 6 + 1); fall: 20 + 2 - (2 + 1 + 1).
        DUE.same("worst setup", t.worst(0), 6);
        DUE.same("second setup", t.path(0, 1), 18);
        // Rise: 1 + 3 + 1 + 2 - 3 - 1; fall: 1 + 1 - 3.
        DUE.same("worst hold", t.worst(1), -1);
        DUE.same("second hold", t.path(1, 1), 3);
        DUE.same("total hold", t.total(1), -1);
        DUE.same("least period", t.leastPeriod(), 20 - 6);
        DUE.same("slack of the worst path", t.path(0, 0), 6);
        DUE.row(t, 0, 0, 0, 10, 24, 16, 0);
        DUE.finish();
    }
}
