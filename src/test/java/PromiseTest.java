/** The document's promises one by one, with answers reckoned by hand. */
public final class PromiseTest {
    private static final int NONE = Integer.MIN_VALUE;
    private static final int LOWEST = Integer.MIN_VALUE;
    private static final int HIGHEST = Integer.MAX_VALUE;
    private static final Due DUE = new Due();

    public static void main(String[] args) {
        constants();
        newObject();
        clock();
        input();
        gate();
        register();
        output();
        fullNet();
        wire();
        sense();
        delay();
        check();
        analyse();
        refusedCallsChangeNothing();
        everyChangeForgets();
        cycle();
        ways();
        arrival();
        slack();
        credit();
        worst();
        total();
        leastPeriod();
        paths();
        path();
        element();
        longestWays();
        DUE.finish();
    }

    private static void constants() {
        DUE.same("NONE", PathTiming.NONE, -2147483648L);
        DUE.same("CYCLE", PathTiming.CYCLE, -1);
        DUE.same("TANGLE", PathTiming.TANGLE, -2);
        DUE.same("MANY", PathTiming.MANY, -3);
    }

    private static void newObject() {
        PathTiming x = new PathTiming();
        DUE.state("worst() of a new object", () -> x.worst(0));
        DUE.same("cycle() of a new object", x.cycle(), NONE);
        DUE.same("analyse() of a new object", x.analyse(), 0);
        DUE.same("paths() of a new object", x.paths(), 0);
        DUE.same("leastPeriod() of a new object", x.leastPeriod(), 501);
        DUE.argument("wire() to a node that is not there", () -> x.wire(1, 0, 0, 0, 0));
        DUE.same("the first input", x.input(0, 0, 0, 0), 1);
        DUE.same("the first output", x.output(), 2);
        x.wire(2, 0, 1, 0, 0);
        DUE.same("one end", x.analyse(), 1);
        DUE.same("the period of a new object", x.slack(2, 0), 1000);
    }

    private static void clock() {
        PathTiming x = Nets.inputToOutput();
        x.analyse();
        DUE.same("period 100", x.slack(2, 0), 59);
        DUE.argument("clock(1, 1)", () -> x.clock(1, 1));
        DUE.argument("clock(0, 0)", () -> x.clock(0, 0));
        DUE.argument("clock(lowest, 1)", () -> x.clock(LOWEST, 1));
        DUE.argument("clock(1000001, 1)", () -> x.clock(1000001, 1));
        DUE.argument("clock(50, 0)", () -> x.clock(50, 0));
        DUE.argument("clock(50, 50)", () -> x.clock(50, 50));
        DUE.argument("clock(50, highest)", () -> x.clock(50, HIGHEST));
        DUE.argument("clock(50, -1)", () -> x.clock(50, -1));
        DUE.same("a refused clock() changes nothing", x.slack(2, 0), 59);
        x.clock(2, 1);
        DUE.state("clock() forgets", () -> x.slack(2, 0));
        x.analyse();
        DUE.same("period 2", x.slack(2, 0), -39);
        DUE.same("width 1", x.leastPeriod(), 41);
        x.clock(1000000, 999999);
        x.analyse();
        DUE.same("period 1000000", x.slack(2, 0), 999959);
        DUE.same("width 999999", x.leastPeriod(), 1000000);
    }

    private static void input() {
        PathTiming x = new PathTiming();
        DUE.argument("rise below", () -> x.input(-1000001, 0, 0, 0));
        DUE.argument("rise above", () -> x.input(0, 1000001, 0, 0));
        DUE.argument("fall below", () -> x.input(0, 0, -1000001, 0));
        DUE.argument("fall above", () -> x.input(0, 0, 0, 1000001));
        DUE.argument("early above late, rise", () -> x.input(1, 0, 0, 0));
        DUE.argument("early above late, fall", () -> x.input(0, 0, 1, 0));
        DUE.argument("both out of range", () -> x.input(1000001, 1000001, 0, 0));
        DUE.argument("both below", () -> x.input(0, 0, LOWEST, LOWEST));
        DUE.same("input() after refused ones", x.input(-1000000, 1000000, 7, 7), 1);
        DUE.same("the next input", x.input(1, 2, 3, 4), 2);
        DUE.same("inputs are no ends", x.analyse(), 0);
        DUE.same("rise early", x.arrival(1, 0, 0, false), -1000000);
        DUE.same("rise late", x.arrival(1, 0, 0, true), 1000000);
        DUE.same("fall early", x.arrival(1, 1, 0, false), 7);
        DUE.same("fall late", x.arrival(2, 1, 0, true), 4);
        DUE.same("fall early of the second", x.arrival(2, 1, 0, false), 3);
        DUE.same("rise late of the second", x.arrival(2, 0, 0, true), 2);
    }

    private static void gate() {
        PathTiming x = new PathTiming();
        DUE.argument("gate(0)", () -> x.gate(0));
        DUE.argument("gate(4)", () -> x.gate(4));
        DUE.argument("gate(-1)", () -> x.gate(-1));
        DUE.argument("gate(highest)", () -> x.gate(HIGHEST));
        DUE.same("gate(1)", x.gate(1), 1);
        DUE.same("gate(2)", x.gate(2), 2);
        DUE.same("gate(3)", x.gate(3), 3);
        DUE.argument("pin 1 of one", () -> x.wire(1, 1, 0, 0, 0));
        DUE.argument("pin 2 of two", () -> x.wire(2, 2, 0, 0, 0));
        DUE.argument("pin 3 of three", () -> x.wire(3, 3, 0, 0, 0));
        x.input(1, 2, 3, 4);
        x.wire(3, 2, 4, 0, 0);
        x.analyse();
        DUE.same("a new pin has sense 0 and no delay, rise", x.arrival(3, 0, 0, true), 2);
        DUE.same("a new pin has sense 0 and no delay, fall", x.arrival(3, 1, 0, false), 3);
        DUE.same("a pin without a wire", x.arrival(1, 0, 0, true), NONE);
    }

    private static void register() {
        PathTiming x = new PathTiming();
        DUE.same("register()", x.register(), 1);
        DUE.same("the next register", x.register(), 2);
        x.wire(1, 1, 0, 0, 0);
        x.wire(2, 1, 0, 0, 0);
        x.wire(2, 0, 1, 0, 0);
        DUE.argument("a register has no pin 2", () -> x.wire(1, 2, 0, 0, 0));
        DUE.same("a register without a wire to pin 0 is no end with a path", x.analyse(), 1);
        DUE.same("no delays, no setup", x.slack(2, 0), 1000);
        DUE.same("no delays, no hold", x.slack(2, 1), 0);
        DUE.same("both changes", x.paths(), 2);
    }

    private static void output() {
        PathTiming x = new PathTiming();
        DUE.same("output()", x.output(), 1);
        DUE.same("the next output", x.output(), 2);
        x.input(0, 0, 0, 0);
        x.wire(2, 0, 3, 0, 0);
        DUE.argument("an output has no pin 1", () -> x.wire(1, 1, 3, 0, 0));
        DUE.same("one of two outputs has a path", x.analyse(), 1);
        DUE.same("setup 0", x.slack(2, 0), 1000);
        DUE.same("hold 0", x.slack(2, 1), 0);
        DUE.same("no path", x.slack(1, 0), NONE);
    }

    private static void fullNet() {
        PathTiming x = Nets.inputToOutput();
        for (int node = 3; node < 48; node++) {
            DUE.same("node " + node, node % 3 == 0 ? x.gate(1) : node % 3 == 1 ? x.register() : x.output(), node);
        }
        x.analyse();
        DUE.same("gate() in a full net", x.gate(3), NONE);
        DUE.same("register() in a full net", x.register(), NONE);
        DUE.same("output() in a full net", x.output(), NONE);
        DUE.same("input() in a full net", x.input(0, 1, 0, 1), NONE);
        DUE.argument("gate(0) in a full net", () -> x.gate(0));
        DUE.argument("input() with a wrong time in a full net", () -> x.input(1, 0, 0, 0));
        DUE.same("an answer NONE leaves what was analysed", x.slack(2, 0), 59);
        DUE.argument("there is no node 48", () -> x.arrival(48, 0, 0, true));
        DUE.same("there is a node 47", x.arrival(47, 0, 0, true), NONE);
        x.wire(47, 0, 1, 0, 0);
        DUE.same("node 47 is an end", x.analyse(), 2);
        DUE.same("slack at node 47", x.slack(47, 0), 93);
        DUE.row(x, 0, 2, 9, 8 * 47 + 1);
    }

    private static void wire() {
        PathTiming x = Nets.inputToOutput();
        x.register();
        x.gate(2);
        x.analyse();
        DUE.argument("no pin of the clock", () -> x.wire(0, 0, 1, 0, 0));
        DUE.argument("no pin of an input", () -> x.wire(1, 0, 1, 0, 0));
        DUE.argument("no such node", () -> x.wire(5, 0, 1, 0, 0));
        DUE.argument("node below", () -> x.wire(-1, 0, 1, 0, 0));
        DUE.argument("node far above", () -> x.wire(HIGHEST, 0, 1, 0, 0));
        DUE.argument("pin below", () -> x.wire(4, -1, 1, 0, 0));
        DUE.argument("pin above", () -> x.wire(4, 2, 1, 0, 0));
        DUE.argument("pin far above", () -> x.wire(4, HIGHEST, 1, 0, 0));
        DUE.argument("from an output", () -> x.wire(4, 0, 2, 0, 0));
        DUE.argument("from an output to itself", () -> x.wire(2, 0, 2, 0, 0));
        DUE.argument("from below", () -> x.wire(4, 0, -1, 0, 0));
        DUE.argument("from above", () -> x.wire(4, 0, 5, 0, 0));
        DUE.argument("early below", () -> x.wire(4, 0, 1, -1, 0));
        DUE.argument("late above", () -> x.wire(4, 0, 1, 0, 10001));
        DUE.argument("early above late", () -> x.wire(4, 0, 1, 2, 1));
        DUE.argument("both above", () -> x.wire(4, 0, 1, HIGHEST, HIGHEST));
        DUE.same("refused wires leave what was analysed", x.slack(2, 0), 59);
        x.wire(2, 0, 1, 0, 10000);
        DUE.state("wire() forgets", () -> x.slack(2, 0));
        x.analyse();
        DUE.same("in place of the old wire, setup", x.slack(2, 0), 100 - 30 - 7 - 10000);
        DUE.same("in place of the old wire, hold", x.slack(2, 1), -42);
        DUE.same("in place of the old wire, paths", x.paths(), 2);
        x.wire(3, 0, 3, 0, 0);
        x.wire(3, 1, 3, 0, 0);
        DUE.same("a register's wire from itself is no cycle", x.analyse(), 1);
        DUE.same("nor a clock way", x.ways(3), 0);
        x.wire(4, 1, 4, 0, 0);
        DUE.same("a gate's wire from itself is one", x.analyse(), PathTiming.CYCLE);
    }

    private static void sense() {
        PathTiming x = new PathTiming();
        x.input(1, 2, 10, 20);
        x.gate(2);
        x.wire(2, 1, 1, 0, 0);
        x.register();
        x.output();
        DUE.argument("a sense of the clock", () -> x.sense(0, 0, 0));
        DUE.argument("a sense of an input", () -> x.sense(1, 0, 0));
        DUE.argument("a sense of a register", () -> x.sense(3, 0, 0));
        DUE.argument("a sense of an output", () -> x.sense(4, 0, 0));
        DUE.argument("node below", () -> x.sense(-1, 0, 0));
        DUE.argument("node above", () -> x.sense(5, 0, 0));
        DUE.argument("pin below", () -> x.sense(2, -1, 0));
        DUE.argument("pin above", () -> x.sense(2, 2, 0));
        DUE.argument("sense below", () -> x.sense(2, 1, -1));
        DUE.argument("sense above", () -> x.sense(2, 1, 3));
        x.analyse();
        DUE.same("the same, rise", x.arrival(2, 0, 0, true), 2);
        DUE.same("the same, fall", x.arrival(2, 1, 0, true), 20);
        x.sense(2, 0, 1);
        DUE.state("sense() forgets", () -> x.arrival(2, 0, 0, true));
        x.analyse();
        DUE.same("the other pin's sense", x.arrival(2, 0, 0, true), 2);
        x.sense(2, 1, 1);
        x.analyse();
        DUE.same("the other one, rise", x.arrival(2, 0, 0, true), 20);
        DUE.same("the other one, fall", x.arrival(2, 1, 0, true), 2);
        x.sense(2, 1, 2);
        x.analyse();
        DUE.same("both, rise early", x.arrival(2, 0, 0, false), 1);
        DUE.same("both, rise late", x.arrival(2, 0, 0, true), 20);
        DUE.same("both, fall early", x.arrival(2, 1, 0, false), 1);
        DUE.same("both, fall late", x.arrival(2, 1, 0, true), 20);
    }

    private static void delay() {
        PathTiming x = new PathTiming();
        x.input(0, 0, 0, 0);
        x.gate(2);
        x.wire(2, 0, 1, 100, 200);
        x.register();
        x.wire(3, 1, 0, 1, 2);
        x.output();
        x.wire(4, 0, 3, 0, 0);
        x.analyse();
        DUE.argument("a delay of the clock", () -> x.delay(0, 0, 0, 0, 0));
        DUE.argument("a delay of an input", () -> x.delay(1, 0, 0, 0, 0));
        DUE.argument("a delay of an output", () -> x.delay(4, 0, 0, 0, 0));
        DUE.argument("a delay of a register's pin 0", () -> x.delay(3, 0, 0, 0, 0));
        DUE.argument("a delay of a register's pin 2", () -> x.delay(3, 2, 0, 0, 0));
        DUE.argument("node below", () -> x.delay(-1, 0, 0, 0, 0));
        DUE.argument("node above", () -> x.delay(5, 1, 0, 0, 0));
        DUE.argument("pin below", () -> x.delay(2, -1, 0, 0, 0));
        DUE.argument("pin above", () -> x.delay(2, 2, 0, 0, 0));
        DUE.argument("change below", () -> x.delay(2, 0, -1, 0, 0));
        DUE.argument("change above", () -> x.delay(2, 0, 2, 0, 0));
        DUE.argument("early below", () -> x.delay(2, 0, 0, -1, 0));
        DUE.argument("late above", () -> x.delay(2, 0, 0, 0, 10001));
        DUE.argument("early above late", () -> x.delay(2, 0, 0, 1, 0));
        DUE.same("refused delays leave what was analysed", x.arrival(2, 0, 0, true), 200);
        x.delay(2, 0, 0, 3, 10000);
        DUE.state("delay() forgets", () -> x.arrival(2, 0, 0, true));
        x.delay(2, 0, 1, 5, 6);
        x.delay(2, 1, 0, 7, 8);
        x.delay(3, 1, 0, 10, 20);
        x.delay(3, 1, 1, 30, 40);
        x.analyse();
        DUE.same("rise early", x.arrival(2, 0, 0, false), 103);
        DUE.same("rise late", x.arrival(2, 0, 0, true), 10200);
        DUE.same("fall early", x.arrival(2, 1, 0, false), 105);
        DUE.same("fall late", x.arrival(2, 1, 0, true), 206);
        DUE.same("register, rise early", x.arrival(4, 0, 0, false), 11);
        DUE.same("register, rise late", x.arrival(4, 0, 0, true), 22);
        DUE.same("register, fall early", x.arrival(4, 1, 0, false), 31);
        DUE.same("register, fall late", x.arrival(4, 1, 0, true), 42);
        x.sense(2, 0, 1);
        x.analyse();
        DUE.same("the delay goes by the change to which it goes", x.arrival(2, 0, 0, true), 10200);
    }

    private static void check() {
        PathTiming x = Nets.inputToOutput();
        x.gate(1);
        x.register();
        x.analyse();
        DUE.argument("a check of the clock", () -> x.check(0, 0, 0, 0));
        DUE.argument("a check of an input", () -> x.check(1, 0, 0, 0));
        DUE.argument("a check of a gate", () -> x.check(3, 0, 0, 0));
        DUE.argument("node below", () -> x.check(-1, 0, 0, 0));
        DUE.argument("node above", () -> x.check(5, 0, 0, 0));
        DUE.argument("change below", () -> x.check(2, -1, 0, 0));
        DUE.argument("change above", () -> x.check(2, 2, 0, 0));
        DUE.argument("setup below", () -> x.check(2, 0, -10001, 0));
        DUE.argument("setup above", () -> x.check(2, 0, 10001, 0));
        DUE.argument("hold below", () -> x.check(2, 0, 0, -10001));
        DUE.argument("hold above", () -> x.check(2, 0, 0, 10001));
        DUE.same("refused checks leave what was analysed", x.slack(2, 0), 59);
        x.check(2, 0, 10000, -10000);
        DUE.state("check() forgets", () -> x.slack(2, 0));
        x.check(2, 1, -10000, 10000);
        x.analyse();
        DUE.same("setup, least", x.path(0, 0), 100 - 9 - 10000);
        DUE.same("setup, greatest", x.path(0, 1), 100 - 11 + 10000);
        DUE.same("hold, least", x.path(1, 0), -1 - 10000);
        DUE.same("hold, greatest", x.path(1, 1), 4 + 10000);
        x.wire(4, 1, 0, 0, 0);
        x.wire(4, 0, 1, 0, 0);
        x.check(4, 0, 50, 60);
        DUE.same("a register has checks too", x.analyse(), 2);
        DUE.same("a register's setup", x.slack(4, 0), 100 - 5 - 50);
        DUE.same("a register's hold", x.slack(4, 1), 3 - 60);
    }

    private static void analyse() {
        PathTiming x = Nets.twoRegisters();
        DUE.same("one end", x.analyse(), 1);
        DUE.same("once more", x.analyse(), 1);
        x.wire(1, 0, 2, 0, 0);
        DUE.same("two ends", x.analyse(), 2);
        x.register();
        x.wire(3, 0, 1, 0, 0);
        DUE.same("an end without a clock way has no timing path", x.analyse(), 2);
        x.output();
        x.wire(4, 0, 3, 0, 0);
        DUE.same("a register without a clock way is no start", x.analyse(), 2);
        x.wire(4, 0, 0, 0, 0);
        DUE.same("the clock is no start", x.analyse(), 2);
        x.gate(1);
        x.wire(5, 0, 0, 0, 0);
        x.wire(4, 0, 5, 0, 0);
        DUE.same("nor is what it leads to", x.analyse(), 2);
        x.wire(5, 0, 5, 0, 0);
        DUE.same("a cycle", x.analyse(), PathTiming.CYCLE);
        DUE.state("nothing is analysed", () -> x.worst(0));
        x.wire(5, 0, 0, 0, 0);
        DUE.state("not without analyse()", () -> x.worst(0));
        DUE.same("no cycle any more", x.analyse(), 2);
        tangles();
    }

    private static void tangles() {
        PathTiming x = Nets.tangle(3, 3);
        DUE.same("nine ways", x.analyse(), PathTiming.TANGLE);
        DUE.state("nothing is analysed", () -> x.ways(1));
        x.wire(3, 2, 1, 0, 0);
        DUE.same("six ways", x.analyse(), 0);
        DUE.same("ways(1)", x.ways(1), 6);
        x.wire(3, 2, 2, 0, 0);
        x.gate(1);
        x.wire(4, 0, 4, 0, 0);
        DUE.same("a cycle goes before a tangle", x.analyse(), PathTiming.CYCLE);
        x.wire(4, 0, 0, 0, 0);
        x.wire(1, 1, 0, 0, 0);
        DUE.same("ways that lead to no register are not counted", x.analyse(), 0);
        DUE.same("one way", x.ways(1), 1);
        PathTiming y = new PathTiming();
        y.register();
        for (int i = 0; i < 40; i++) {
            y.gate(3);
            for (int pin = 0; pin < 3; pin++) {
                y.wire(2 + i, pin, i == 0 ? 0 : 1 + i, 0, 0);
                y.sense(2 + i, pin, 2);
            }
        }
        DUE.same("very many ways to no register", y.analyse(), 0);
        int from = 0;
        for (int i = 0; i < 6; i++) {
            int gate = y.gate(1);
            y.wire(gate, 0, from, 0, 0);
            from = gate;
        }
        y.wire(1, 1, from, 0, 0);
        y.analyse();
        DUE.same("very many ways beside the one to a register", y.ways(1), 1);
        y.wire(1, 1, 41, 0, 0);
        DUE.same("very many ways to a register", y.analyse(), PathTiming.TANGLE);
    }

    private static void refusedCallsChangeNothing() {
        PathTiming x = Nets.inputToOutput();
        x.analyse();
        DUE.argument("slack(1, 0)", () -> x.slack(1, 0));
        DUE.argument("worst(2)", () -> x.worst(2));
        DUE.place("path(0, 2)", () -> x.path(0, 2));
        DUE.place("element(1, 20, 0)", () -> x.element(1, 20, 0));
        DUE.same("slack stays", x.slack(2, 0), 59);
        DUE.same("paths stay", x.path(1, 0), -41);
        DUE.same("cycle()", x.cycle(), NONE);
        DUE.same("cycle() leaves what was analysed", x.slack(2, 0), 59);
    }

    private static void everyChangeForgets() {
        PathTiming x = Nets.inputToOutput();
        x.gate(1);
        x.register();
        Due.Call[] changes = {
            () -> x.clock(100, 40), () -> x.input(0, 0, 0, 0), () -> x.gate(1), () -> x.register(),
            () -> x.output(), () -> x.wire(2, 0, 1, 1, 4), () -> x.sense(3, 0, 0),
            () -> x.delay(3, 0, 0, 0, 0), () -> x.delay(4, 1, 0, 0, 0), () -> x.check(2, 0, 10, 20),
        };
        for (int i = 0; i < changes.length; i++) {
            DUE.same("analyse() before change " + i, x.analyse(), 1);
            DUE.same("path() before change " + i, x.path(0, 0), 59);
            changes[i].run();
            DUE.state("ways() behind change " + i, () -> x.ways(-1));
            DUE.state("arrival() behind change " + i, () -> x.arrival(-1, 2, 2, true));
            DUE.state("slack() behind change " + i, () -> x.slack(-1, 2));
            DUE.state("worst() behind change " + i, () -> x.worst(2));
            DUE.state("total() behind change " + i, () -> x.total(2));
            DUE.state("leastPeriod() behind change " + i, () -> x.leastPeriod());
            DUE.state("paths() behind change " + i, () -> x.paths());
            DUE.state("path() behind change " + i, () -> x.path(2, -1));
            DUE.state("element() behind change " + i, () -> x.element(2, -1, -1));
        }
    }

    private static void cycle() {
        PathTiming x = new PathTiming();
        for (int gate = 1; gate <= 6; gate++) {
            x.gate(2);
        }
        x.register();
        DUE.same("no wires", x.cycle(), NONE);
        x.wire(5, 0, 6, 0, 0);
        x.wire(6, 0, 4, 0, 0);
        x.wire(4, 1, 5, 0, 0);
        DUE.same("a ring of three", x.cycle(), 4);
        x.wire(1, 0, 4, 0, 0);
        x.wire(4, 0, 2, 0, 0);
        DUE.same("gates before and behind a ring are not of it", x.cycle(), 4);
        x.wire(3, 1, 3, 0, 0);
        DUE.same("a gate wired from itself", x.cycle(), 3);
        DUE.same("analyse()", x.analyse(), PathTiming.CYCLE);
        DUE.same("the same after analyse()", x.cycle(), 3);
        x.sense(3, 1, 1);
        DUE.same("whatever the changes", x.cycle(), 3);
        x.wire(3, 1, 0, 0, 0);
        x.wire(4, 1, 7, 0, 0);
        x.wire(7, 0, 5, 0, 0);
        x.wire(7, 1, 5, 0, 0);
        DUE.same("a register breaks a ring", x.cycle(), NONE);
        DUE.same("analyse() without a cycle", x.analyse(), 0);
        DUE.same("cycle() of what was analysed", x.cycle(), NONE);
        DUE.same("still analysed", x.ways(7), 0);
    }

    private static void ways() {
        PathTiming x = Nets.halfPeriods();
        DUE.state("before analyse()", () -> x.ways(1));
        x.input(0, 0, 0, 0);
        x.output();
        x.register();
        x.analyse();
        DUE.same("by a wire alone", x.ways(1), 1);
        DUE.same("over a gate", x.ways(2), 1);
        DUE.same("without a wire", x.ways(6), 0);
        DUE.argument("of the clock", () -> x.ways(0));
        DUE.argument("of a gate", () -> x.ways(3));
        DUE.argument("of an input", () -> x.ways(4));
        DUE.argument("of an output", () -> x.ways(5));
        DUE.argument("below", () -> x.ways(-1));
        DUE.argument("above", () -> x.ways(7));
        x.sense(3, 0, 2);
        x.wire(6, 1, 4, 0, 0);
        x.analyse();
        DUE.same("from a rise and from a fall", x.ways(2), 2);
        DUE.same("from an input", x.ways(6), 0);
        PathTiming y = Nets.tangle(3, 2);
        y.sense(2, 0, 2);
        DUE.same("eight ways are no tangle", y.analyse(), 0);
        DUE.same("eight ways", y.ways(1), 8);
        y.sense(2, 1, 2);
        DUE.same("ten ways are one", y.analyse(), PathTiming.TANGLE);
    }

    private static void arrival() {
        PathTiming x = Nets.halfPeriods();
        x.delay(1, 1, 0, 1, 2);
        x.delay(2, 1, 1, 3, 4);
        x.wire(1, 1, 0, 10, 20);
        x.wire(2, 1, 3, 30, 50);
        x.gate(2);
        x.wire(4, 0, 1, 0, 0);
        x.wire(4, 1, 2, 0, 0);
        DUE.state("before analyse()", () -> x.arrival(1, 0, 0, true));
        x.analyse();
        DUE.argument("node below", () -> x.arrival(-1, 0, 0, true));
        DUE.argument("node above", () -> x.arrival(5, 0, 0, true));
        DUE.argument("change", () -> x.arrival(1, 2, 0, true));
        DUE.argument("change below", () -> x.arrival(1, -1, 0, true));
        DUE.argument("base", () -> x.arrival(1, 0, 2, true));
        DUE.argument("base below", () -> x.arrival(1, 0, -1, true));
        DUE.same("of the clock", x.arrival(0, 0, 0, true), NONE);
        DUE.same("of a gate that only the clock leads to", x.arrival(3, 0, 0, true), NONE);
        DUE.same("register, to its pin 0, late", x.arrival(2, 0, 0, true), 20 + 2 + 6);
        DUE.same("register, to its pin 0, early", x.arrival(2, 0, 0, false), 10 + 1 + 5);
        DUE.same("register, other base", x.arrival(2, 0, 1, true), NONE);
        DUE.same("with the width, late", x.arrival(1, 1, 1, true), 40 + 50 + 4 + 8);
        DUE.same("with the width, early", x.arrival(1, 1, 1, false), 40 + 30 + 3 + 7);
        DUE.same("gate, base 0", x.arrival(4, 0, 0, true), 22);
        DUE.same("gate, base 1", x.arrival(4, 0, 1, false), 70);
        x.sense(3, 0, 2);
        x.delay(3, 0, 0, 2, 9);
        x.analyse();
        DUE.same("the greatest of two registers", x.arrival(4, 0, 0, true), 59);
        DUE.same("the least of two registers", x.arrival(4, 0, 0, false), 11);
        x.wire(1, 0, 4, 0, 0);
        x.input(-9, -8, 0, 0);
        x.wire(4, 1, 5, 1, 1);
        x.analyse();
        DUE.same("of an input", x.arrival(5, 0, 0, true), -8);
        DUE.same("of an input, base 1", x.arrival(5, 0, 1, true), NONE);
        DUE.same("an input and a register, early", x.arrival(4, 0, 0, false), -8);
        DUE.same("an input and a register, late", x.arrival(4, 0, 0, true), 22);
        DUE.same("an end without a clock way has an arrival", arrivalWithoutClock(), 12);
    }

    private static int arrivalWithoutClock() {
        PathTiming x = new PathTiming();
        x.input(1, 2, 3, 4);
        x.register();
        x.wire(2, 0, 1, 0, 10);
        x.analyse();
        return x.arrival(2, 0, 0, true);
    }

    private static void slack() {
        PathTiming x = Nets.twoRegisters();
        DUE.state("before analyse()", () -> x.slack(2, 0));
        x.gate(1);
        x.analyse();
        DUE.argument("of the clock", () -> x.slack(0, 0));
        DUE.argument("of a gate", () -> x.slack(3, 0));
        DUE.argument("below", () -> x.slack(-1, 0));
        DUE.argument("above", () -> x.slack(4, 0));
        DUE.argument("check below", () -> x.slack(2, -1));
        DUE.argument("check above", () -> x.slack(2, 2));
        DUE.same("no timing path", x.slack(1, 0), NONE);
        DUE.same("no timing path, hold", x.slack(1, 1), NONE);
        // Rise: 100 + 3 - 29 - (2 + 17 + 11); fall: 100 + 3 - 37 - (2 + 23 + 11).
        DUE.same("setup", x.slack(2, 0), 30);
        // Rise: 1 + 13 + 7 - 100 - 5 - 31 + 100; fall: 1 + 19 + 7 - 5 - 41.
        DUE.same("hold", x.slack(2, 1), -19);
        PathTiming y = Nets.halfPeriods();
        y.delay(1, 1, 0, 1, 1);
        y.delay(1, 1, 1, 1, 1);
        DUE.same("two ends", y.analyse(), 2);
        DUE.same("from base 0 to the width: the same turn", y.slack(2, 0), 40 - 7);
        DUE.same("from base 0 to the width, hold", y.slack(2, 1), 6 - 40 + 100);
        DUE.same("from the width to base 0: the next turn", y.slack(1, 0), 100 - 40 - 8);
        DUE.same("from the width to base 0, hold", y.slack(1, 1), 40 + 7 - 100 + 100);
        y.wire(2, 0, 2, 5, 6);
        y.analyse();
        DUE.same("from the width to the width", y.slack(2, 0), 40 + 100 - 40 - 6);
        PathTiming z = Nets.halfPeriods();
        z.output();
        z.wire(4, 0, 2, 1, 3);
        z.input(2, 4, 2, 4);
        z.wire(2, 0, 5, 0, 0);
        z.analyse();
        DUE.same("an output has base 0", z.slack(4, 0), 100 - 40 - 3);
        DUE.same("an output, hold", z.slack(4, 1), 41);
        DUE.same("an input has base 0", z.slack(2, 0), 40 - 4);
        DUE.same("an input, hold", z.slack(2, 1), 2 - 40 + 100);
    }

    private static void credit() {
        PathTiming x = new PathTiming();
        x.clock(100, 40);
        x.gate(1);
        x.wire(1, 0, 0, 1, 3);
        x.delay(1, 0, 0, 2, 7);
        x.register();
        x.register();
        x.wire(2, 1, 1, 4, 10);
        x.wire(3, 1, 1, 5, 13);
        x.wire(3, 0, 2, 0, 0);
        x.wire(2, 0, 2, 0, 0);
        x.analyse();
        // The ways: 7 to 20 and 8 to 23; they share the step to gate 1, 3 to 10.
        DUE.same("shared steps, setup", x.slack(3, 0), 100 + 8 + 7 - 20);
        DUE.same("shared steps, hold", x.slack(3, 1), 7 + 7 - 23);
        DUE.same("the same way to the same register, setup", x.slack(2, 0), 100);
        DUE.same("the same way to the same register, hold", x.slack(2, 1), 0);
        x.output();
        x.wire(4, 0, 2, 0, 0);
        x.input(0, 0, 0, 0);
        x.wire(2, 0, 5, 0, 0);
        x.analyse();
        DUE.same("none with an output", x.slack(4, 0), 100 - 20);
        DUE.same("none with an input", x.slack(2, 0), 100 + 7);
        x.gate(1);
        x.wire(6, 0, 0, 1, 3);
        x.delay(6, 0, 0, 2, 7);
        x.wire(3, 1, 6, 5, 13);
        x.analyse();
        DUE.same("none but for the clock's own element", x.slack(3, 0), 100 + 8 - 20);
        creditOfManyWays();
        creditOfLongWays();
    }

    /** Gates 1 and 2 behind the clock; register 4 behind both, register 5 behind gate 3 behind both. */
    private static void creditOfLongWays() {
        PathTiming x = new PathTiming();
        x.clock(1000, 40);
        for (int gate = 1; gate <= 3; gate++) {
            x.gate(2);
            x.wire(gate, 0, gate - 1, gate, 10 * gate);
            x.delay(gate, 0, 0, 100 * gate, 101 * gate);
        }
        x.register();
        x.register();
        x.wire(4, 1, 2, 0, 5);
        x.wire(5, 1, 3, 0, 7);
        x.wire(5, 0, 4, 1, 2);
        x.wire(4, 0, 5, 3, 4);
        x.analyse();
        // To gate 1: 101 to 111; to gate 2: 303 to 333; to gate 3: 606 to 666. They share 30.
        DUE.same("to the longer way, setup", x.slack(5, 0), 1000 + 606 + 30 - 338 - 2);
        DUE.same("to the longer way, hold", x.slack(5, 1), 303 + 1 + 30 - 673);
        DUE.same("to the shorter way, setup", x.slack(4, 0), 1000 + 303 + 30 - 673 - 4);
        DUE.same("to the shorter way, hold", x.slack(4, 1), 606 + 3 + 30 - 338);
        x.wire(3, 1, 1, 0, 0);
        x.analyse();
        DUE.same("two ways of one end", x.paths(), 2 * 2 + 2 * 2);
        // Over gate 1 alone: 101 to 111, with 10 shared.
        DUE.same("the sooner way is the worse for setup", x.slack(5, 0), 1000 + 101 + 10 - 338 - 2);
        DUE.same("the later start is the worse for setup", x.path(0, 1), 656);
        DUE.row(x, 0, 1, 0, 8, 16, 24, 43, 33, 0, 8, 16);
        DUE.same("the end's sooner way comes next", x.path(0, 2), 771);
        DUE.row(x, 0, 2, 0, 8, 16, 34, 40, 0, 8, 26);
    }

    /** Two ways to register 2, which differ by the pin of gate 1 or only by the clock's change. */
    private static void creditOfManyWays() {
        PathTiming x = new PathTiming();
        x.clock(100, 40);
        x.gate(2);
        x.wire(1, 0, 0, 0, 10);
        x.wire(1, 1, 0, 0, 20);
        x.register();
        x.wire(2, 1, 1, 0, 5);
        x.wire(2, 0, 2, 0, 0);
        x.analyse();
        DUE.same("four pairs of ways, two changes", x.paths(), 8);
        // By pin 1 then pin 0: late 25, early 0, no credit.
        DUE.same("the least is of ways that part at once", x.slack(2, 0), 100 - 25);
        DUE.same("its first path", x.path(0, 0), 75);
        DUE.row(x, 0, 0, 0, 10, 18, 16, 0, 8);
        DUE.same("the paths with full credit come last", x.path(0, 7), 100);
        x.sense(1, 1, 1);
        x.analyse();
        // From a fall (40 + 25) to a rise: edge 100; from a rise (15) to a fall: edge 40.
        DUE.same("ways from other changes share nothing", x.path(0, 0), 40 - 15);
        DUE.same("the other way round", x.path(0, 2), 100 - 65);
    }

    private static void worst() {
        PathTiming x = Nets.inputToOutput();
        DUE.state("before analyse()", () -> x.worst(0));
        x.output();
        x.output();
        x.wire(3, 0, 1, 50, 60);
        x.analyse();
        DUE.argument("check below", () -> x.worst(-1));
        DUE.argument("check above", () -> x.worst(2));
        DUE.same("setup", x.worst(0), 33);
        DUE.same("hold", x.worst(1), -41);
        PathTiming y = new PathTiming();
        y.register();
        y.analyse();
        DUE.same("without a timing path", y.worst(0), NONE);
        DUE.same("without a timing path, hold", y.worst(1), NONE);
    }

    private static void total() {
        PathTiming x = Nets.inputToOutput();
        DUE.state("before analyse()", () -> x.total(0));
        x.output();
        x.output();
        x.output();
        x.wire(3, 0, 1, 10, 3000);
        x.wire(4, 0, 1, 0, 200);
        x.check(4, 0, 0, 7);
        x.analyse();
        DUE.argument("check below", () -> x.total(-1));
        DUE.argument("check above", () -> x.total(2));
        DUE.same("setup: the least of each end, below 0 alone", x.total(0), (100 - 3007) + (100 - 207));
        DUE.same("hold", x.total(1), -41 - 4);
        PathTiming y = new PathTiming();
        y.analyse();
        DUE.same("without any", y.total(0), 0);
        DUE.same("without any, hold", y.total(1), 0);
    }

    private static void leastPeriod() {
        PathTiming x = Nets.twoRegisters();
        DUE.state("before analyse()", () -> x.leastPeriod());
        x.analyse();
        DUE.same("slack 30 of 100", x.leastPeriod(), 70);
        x.clock(100, 75);
        x.analyse();
        DUE.same("not down to the width", x.leastPeriod(), 76);
        x.clock(50, 40);
        x.analyse();
        DUE.same("above the period", x.leastPeriod(), 70);
        PathTiming y = Nets.halfPeriods();
        y.analyse();
        DUE.same("a half period has room enough", y.leastPeriod(), 48);
        y.wire(2, 0, 1, 0, 40);
        y.analyse();
        DUE.same("just enough", y.leastPeriod(), 48);
        y.wire(2, 0, 1, 0, 41);
        y.analyse();
        DUE.same("no period mends a half period", y.leastPeriod(), NONE);
        PathTiming z = new PathTiming();
        z.input(0, 990000, 0, 0);
        z.output();
        z.wire(2, 0, 1, 0, 10000);
        z.analyse();
        DUE.same("the greatest period", z.leastPeriod(), 1000000);
        z.check(2, 0, 1, 0);
        z.analyse();
        DUE.same("one more", z.leastPeriod(), NONE);
        z.check(2, 0, 0, 10000);
        z.analyse();
        DUE.same("hold does not matter", z.leastPeriod(), 1000000);
    }

    private static void paths() {
        PathTiming x = Nets.chain(2, 2, 2, 2, 2, 2);
        DUE.state("before analyse()", () -> x.paths());
        x.analyse();
        DUE.same("two changes, six times two pins", x.paths(), 128);
        PathTiming y = Nets.chain(2, 2, 2, 2, 2, 2, 2, 2, 2, 2);
        y.analyse();
        DUE.same("2048", y.paths(), 2048);
        y.output();
        y.wire(13, 0, 12, 0, 0);
        y.analyse();
        DUE.same("4096", y.paths(), PathTiming.MANY);
        exactlyMost();
        PathTiming z = Nets.halfPeriods();
        z.sense(3, 0, 2);
        z.analyse();
        DUE.same("each data way with each clock way of its end", z.paths(), 2 * 2 + 2 * 2);
        z.wire(2, 0, 2, 0, 0);
        z.analyse();
        DUE.same("and of its start", z.paths(), 2 * 2 * 2 + 2 * 2);
        PathTiming w = Nets.chain(3, 3, 3, 3, 3, 3, 3, 3, 3, 3, 3, 3, 3, 3, 3, 3, 3, 3, 3, 3, 3, 3, 3, 3, 3, 3, 3, 3, 3, 3);
        w.analyse();
        DUE.same("far more than an int counts", w.paths(), PathTiming.MANY);
        DUE.same("slack of very many", w.slack(2, 0), 1000 - 60);
        w.output();
        w.wire(2, 0, 1, 0, 0);
        w.analyse();
        DUE.same("very many ways to no end", w.paths(), 2);
        DUE.same("are not gone over", w.path(0, 0), 1000);
        PathTiming v = unstarted();
        v.analyse();
        DUE.same("very many ways from no start", v.paths(), 2);
        DUE.same("are not gone over either", v.path(1, 1), 0);
    }

    /** Outputs that take from different gates make 4000 together; there is never an odd number. */
    private static void exactlyMost() {
        PathTiming x = Nets.most();
        x.analyse();
        DUE.same("4000", x.paths(), 4000);
        DUE.same("the first of 4000", x.path(0, 0), 1000 - 9);
        DUE.same("the last of the ones told", x.path(0, 19), 1000 - 8);
        int more = x.input(0, 0, 0, 0);
        int half = x.register();
        x.wire(half, 1, 0, 0, 0);
        x.wire(half, 0, more, 0, 0);
        x.analyse();
        DUE.same("4002", x.paths(), PathTiming.MANY);
        DUE.state("path() of 4002", () -> x.path(0, 0));
        DUE.state("path() of 4002 with a wrong check", () -> x.path(2, 0));
        DUE.state("path() of 4002 with a wrong k", () -> x.path(0, 20));
        DUE.state("element() of 4002", () -> x.element(2, 20, 0));
        DUE.same("worst() of 4002", x.worst(0), 1000 - 9);
    }

    /** A chain of gates from the clock into an end that an input leads to by another pin. */
    private static PathTiming unstarted() {
        PathTiming x = new PathTiming();
        x.input(0, 0, 0, 0);
        x.output();
        int from = 0;
        for (int i = 0; i < 30; i++) {
            int gate = x.gate(3);
            for (int pin = 0; pin < 3; pin++) {
                x.wire(gate, pin, from, 0, 0);
            }
            from = gate;
        }
        int last = x.gate(2);
        x.wire(last, 0, from, 0, 0);
        x.wire(last, 1, 1, 0, 0);
        x.wire(2, 0, last, 0, 0);
        return x;
    }

    private static void path() {
        PathTiming x = Nets.inputToOutput();
        DUE.state("before analyse()", () -> x.path(0, 0));
        x.analyse();
        DUE.argument("check below", () -> x.path(-1, 0));
        DUE.argument("check above", () -> x.path(2, 0));
        DUE.argument("check before k", () -> x.path(2, 20));
        DUE.place("k below", () -> x.path(0, -1));
        DUE.place("k behind the last", () -> x.path(0, 2));
        DUE.place("k far above", () -> x.path(0, HIGHEST));
        DUE.same("first by setup", x.path(0, 0), 59);
        DUE.same("second by setup", x.path(0, 1), 81);
        DUE.same("first by hold", x.path(1, 0), -41);
        DUE.same("second by hold", x.path(1, 1), -16);
        PathTiming y = Nets.chain(3, 3);
        y.analyse();
        DUE.same("eighteen", y.path(0, 17), 1000);
        DUE.place("not nineteen", () -> y.path(0, 18));
        PathTiming z = Nets.chain(3, 3, 3);
        z.analyse();
        DUE.same("the sum of the pins", z.path(0, 0), 1000 - 6);
        DUE.same("the twentieth", z.path(0, 19), 1000 - 4);
        DUE.place("no more than twenty", () -> z.path(0, 20));
        DUE.place("no more than twenty, hold", () -> z.path(1, 20));
        z.wire(2, 0, 1, 0, 0);
        z.analyse();
        DUE.same("the list is made anew", z.path(0, 0), 1000);
        DUE.place("and short", () -> z.path(0, 2));
        PathTiming v = Nets.chain(1, 1, 1);
        for (int gate = 3; gate <= 5; gate++) {
            v.delay(gate, 0, 0, gate, 10 * gate);
            v.delay(gate, 0, 1, 10 * gate, 20 * gate);
        }
        v.analyse();
        DUE.same("over three gates, falling, setup", v.path(0, 0), 1000 - 240);
        DUE.same("over three gates, rising, setup", v.path(0, 1), 1000 - 120);
        DUE.same("over three gates, rising, hold", v.path(1, 0), 12);
        DUE.same("over three gates, falling, hold", v.path(1, 1), 120);
        DUE.row(v, 0, 0, 9, 25, 33, 41, 17);
        DUE.row(v, 1, 0, 8, 24, 32, 40, 16);
        PathTiming w = new PathTiming();
        w.analyse();
        DUE.place("without a timing path", () -> w.path(0, 0));
        DUE.argument("without a timing path, check", () -> w.path(2, 0));
    }

    private static void element() {
        PathTiming x = Nets.inputToOutput();
        DUE.state("before analyse()", () -> x.element(0, 0, 0));
        x.analyse();
        DUE.argument("check below", () -> x.element(-1, 0, 0));
        DUE.argument("check above", () -> x.element(2, 20, 0));
        DUE.place("k below", () -> x.element(0, -1, 0));
        DUE.place("k behind the last", () -> x.element(0, 2, 0));
        DUE.place("k behind the last with i below", () -> x.element(0, 2, -1));
        DUE.row(x, 0, 0, 9, 17);
        DUE.row(x, 0, 1, 8, 16);
        DUE.row(x, 1, 0, 9, 17);
        DUE.row(x, 1, 1, 8, 16);
        DUE.same("i far above", x.element(0, 0, HIGHEST), -1);
        DUE.same("i far below", x.element(0, 0, LOWEST), -1);
        PathTiming y = Nets.halfPeriods();
        y.gate(3);
        y.wire(4, 2, 1, 0, 0);
        y.sense(4, 2, 1);
        y.wire(2, 0, 4, 0, 0);
        y.wire(1, 0, 1, 0, 0);
        y.analyse();
        DUE.same("slack of a half period", y.path(0, 0), 40);
        DUE.row(y, 0, 0, 0, 10, 37, 17, 1, 24);
        DUE.row(y, 0, 1, 0, 11, 36, 16, 1, 24);
        DUE.row(y, 0, 2, 0, 10, 8, 0);
        DUE.row(y, 0, 3, 0, 11, 9, 0);
        orderOfEqualSlacks();
    }

    private static void orderOfEqualSlacks() {
        PathTiming x = new PathTiming();
        x.input(0, 0, 0, 0);
        x.gate(2);
        x.sense(2, 0, 2);
        x.output();
        x.output();
        for (int pin = 0; pin < 2; pin++) {
            x.wire(2, pin, 1, 0, 0);
        }
        x.wire(3, 0, 2, 0, 0);
        x.wire(4, 0, 1, 0, 0);
        x.analyse();
        int[][] due = {
            {8, 16, 24}, {8, 17, 25}, {8, 18, 24}, {8, 32}, {9, 16, 24}, {9, 17, 25}, {9, 19, 25}, {9, 33},
        };
        DUE.same("eight of one slack", x.paths(), due.length);
        for (int k = 0; k < due.length; k++) {
            DUE.row(x, 0, k, due[k]);
            DUE.row(x, 1, k, due[k]);
        }
    }

    /** A register whose clock way and data way both go over 46 gates: the longest row of all. */
    private static void longestWays() {
        PathTiming x = new PathTiming();
        x.clock(1000000, 1);
        x.register();
        for (int gate = 2; gate < 48; gate++) {
            x.gate(2);
            x.wire(gate, 0, gate == 2 ? 0 : gate - 1, 0, 10000);
            x.delay(gate, 0, 0, 0, 10000);
            x.delay(gate, 0, 1, 0, 10000);
        }
        x.wire(2, 1, 1, 0, 10000);
        x.delay(2, 1, 0, 0, 10000);
        x.delay(2, 1, 1, 0, 10000);
        x.wire(1, 1, 47, 0, 10000);
        x.wire(1, 0, 47, 0, 10000);
        x.delay(1, 1, 0, 0, 10000);
        x.check(1, 0, 10000, 10000);
        DUE.same("one end", x.analyse(), 1);
        // The clock's way is credited in full; the data takes 10000, 46 * 20000 and 10000.
        DUE.same("setup", x.slack(1, 0), 1000000 - 10000 - 940000);
        DUE.same("hold", x.slack(1, 1), -10000);
        DUE.same("late", x.arrival(1, 0, 0, true), 920000 + 10000 + 940000);
        int[] due = new int[47 + 1 + 46 + 1 + 47];
        for (int i = 0; i < 46; i++) {
            due[1 + i] = 8 * (2 + i);
            due[48 + i] = 8 * (2 + i);
            due[96 + i] = 8 * (2 + i);
        }
        due[47] = 10;
        due[48] = 18;
        due[94] = 8;
        due[95] = 0;
        DUE.same("the worst", x.path(0, 0), 50000);
        DUE.row(x, 0, 0, due);
    }
}
