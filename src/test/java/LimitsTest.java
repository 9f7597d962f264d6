/**
 * The empty net and the full one; and promises 11 to 21 at their limits: 8 clock ways, 4000 timing
 * paths, the first 20 of them, the greatest period, and the least that each of them can tell.
 */
public final class LimitsTest {
    private static final int NONE = Integer.MIN_VALUE;
    private static final int LOWEST = Integer.MIN_VALUE;
    private static final int HIGHEST = Integer.MAX_VALUE;
    private static final Due DUE = new Due();

    public static void main(String[] args) {
        emptyNet();
        emptyNetRefuses();
        lastNodeOfEachKind();
        fullNetsOfOneKind();
        fullRing();
        callsOfOneObject();
        endsWithTimingPaths();
        eightClockWays();
        eightWaysOfManyRegisters();
        nineWaysToNoRegister();
        veryManyWaysToNoRegister();
        cycleBeforeTangle();
        leastGateOfACycle();
        ringsThatAreNoCycle();
        arrivalAtEachKind();
        arrivalByBase();
        slackOfEndsWithout();
        worstAroundZero();
        totalAroundZero();
        leastPeriodAtTheWidth();
        leastPeriodAtTheTop();
        leastPeriodOfFixedEdges();
        fourThousandPaths();
        fourThousandByClockWays();
        firstTwenty();
        twentiethOfEqualSlacks();
        elementPlaces();
        DUE.finish();
    }

    private static void emptyNet() {
        PathTiming x = new PathTiming();
        DUE.same("cycle()", x.cycle(), NONE);
        DUE.same("analyse()", x.analyse(), 0);
        DUE.same("paths()", x.paths(), 0);
        for (int check = 0; check < 2; check++) {
            DUE.same("worst()", x.worst(check), NONE);
            DUE.same("total()", x.total(check), 0);
        }
        for (int i = 0; i < 8; i++) {
            DUE.same("arrival() of the clock", x.arrival(0, i & 1, i >> 1 & 1, i >= 4), NONE);
        }
        DUE.same("leastPeriod(): width 500", x.leastPeriod(), 501);
        DUE.same("cycle() once more", x.cycle(), NONE);
        DUE.same("the first node behind the clock", x.register(), 1);
        x.wire(1, 1, 0, 0, 0);
        x.wire(1, 0, 1, 0, 0);
        x.analyse();
        DUE.same("period 1000", x.slack(1, 0), 1000);
    }

    private static void emptyNetRefuses() {
        PathTiming x = new PathTiming();
        for (int node = -1; node <= 1; node++) {
            int n = node;
            DUE.argument("wire() to node " + n, () -> x.wire(n, 0, 0, 0, 0));
            DUE.argument("sense() of node " + n, () -> x.sense(n, 0, 0));
            DUE.argument("delay() of node " + n, () -> x.delay(n, 0, 0, 0, 0));
            DUE.argument("delay() of pin 1 of node " + n, () -> x.delay(n, 1, 0, 0, 0));
            DUE.argument("check() of node " + n, () -> x.check(n, 0, 0, 0));
        }
        x.analyse();
        for (int node = -1; node <= 1; node++) {
            int n = node;
            DUE.argument("ways() of node " + n, () -> x.ways(n));
            DUE.argument("slack() of node " + n, () -> x.slack(n, 0));
        }
        DUE.argument("arrival() of node -1", () -> x.arrival(-1, 0, 0, true));
        DUE.argument("arrival() of node 1", () -> x.arrival(1, 0, 0, true));
        DUE.place("path(0, 0)", () -> x.path(0, 0));
        DUE.place("element(1, 0, 0)", () -> x.element(1, 0, 0));
    }

    private static int add(PathTiming x, int kind) {
        return switch (kind) {
            case 0 -> x.input(-4, 4, -4, 4);
            case 1 -> x.gate(3);
            case 2 -> x.register();
            default -> x.output();
        };
    }

    /** "NONE when there are 48 nodes": the 47th beside the clock is made, the next is not. */
    private static void lastNodeOfEachKind() {
        for (int last = 0; last < 4; last++) {
            PathTiming x = new PathTiming();
            x.input(1, 2, 3, 4);
            for (int node = 2; node < 47; node++) {
                DUE.same("node " + node, add(x, node % 4), node);
            }
            DUE.same("the last node, kind " + last, add(x, last), 47);
            x.analyse();
            for (int kind = 0; kind < 4; kind++) {
                DUE.same("kind " + kind + " in a full net", add(x, kind), NONE);
            }
            DUE.argument("there is no node 48", () -> x.arrival(48, 0, 0, true));
            DUE.argument("nor a wire to it", () -> x.wire(48, 0, 1, 0, 0));
            DUE.argument("nor a wire from it", () -> x.wire(7, 0, 48, 0, 0));
            useLast(x, last);
        }
    }

    /** Output 7 and input 1 stand in every one of these nets. */
    private static void useLast(PathTiming x, int kind) {
        if (kind != 0) {
            x.wire(47, 0, 1, 10, 20);
        }
        if (kind == 1) {
            x.sense(47, 0, 1);
            x.delay(47, 2, 1, 1000, 1000);
            x.delay(47, 0, 1, 100, 200);
        }
        if (kind == 2) {
            x.wire(47, 1, 0, 30, 40);
            x.delay(47, 1, 0, 50, 60);
        }
        if (kind >= 2) {
            x.check(47, 0, 5, 6);
        }
        if (kind != 3) {
            x.wire(7, 0, 47, 0, 0);
        }
        int[] ends = {1, 1, 2, 1};
        DUE.same("ends with kind " + kind + " as the last node", x.analyse(), ends[kind]);
        int[] arrivals = {4, 24, 22, 22};
        DUE.same("arrival at the last node, kind " + kind, x.arrival(47, 0, 0, true), arrivals[kind]);
        int[] worst = {996, 778, 900, 973};
        DUE.same("worst with kind " + kind + " as the last node", x.worst(0), worst[kind]);
        int[][] rows = {{376, 56}, {8, 377, 57}, {0, 378, 56}, {8, 376}};
        DUE.row(x, 0, 0, rows[kind]);
    }

    private static void fullNetsOfOneKind() {
        for (int kind = 0; kind < 4; kind++) {
            PathTiming x = new PathTiming();
            for (int node = 1; node < 48; node++) {
                DUE.same("node " + node, add(x, kind), node);
            }
            DUE.same("the 49th node", add(x, kind), NONE);
            DUE.same("cycle()", x.cycle(), NONE);
            DUE.same("no end of kind " + kind + " has a timing path", x.analyse(), 0);
            DUE.same("no timing path", x.paths(), 0);
            DUE.same("the last node's arrival", x.arrival(47, 0, 0, true), kind == 0 ? 4 : NONE);
            DUE.same("leastPeriod()", x.leastPeriod(), 501);
        }
    }

    /** 47 registers, each wired from the one before, the first from the last. */
    private static void fullRing() {
        PathTiming x = new PathTiming();
        for (int node = 1; node < 48; node++) {
            x.register();
            x.wire(node, 1, 0, 0, 0);
            x.check(node, 0, 1001, 1);
        }
        for (int node = 1; node < 48; node++) {
            x.wire(node, 0, node == 1 ? 47 : node - 1, 0, 0);
        }
        DUE.same("47 ends", x.analyse(), 47);
        DUE.same("94 timing paths", x.paths(), 94);
        DUE.same("the sum of all, setup", x.total(0), -47);
        DUE.same("the sum of all, hold", x.total(1), -47);
        DUE.same("the first", x.path(0, 0), -1);
        DUE.row(x, 0, 0, 0, 10, 16, 0);
        DUE.same("the twentieth", x.path(0, 19), -1);
        DUE.row(x, 0, 19, 0, 162, 168, 0);
    }

    /** "An object is used for at most 512 calls": the last of them is answered as the first. */
    private static void callsOfOneObject() {
        PathTiming x = Nets.twoRegisters();
        for (int call = 11; call < 510; call++) {
            x.analyse();
        }
        DUE.same("the 510th call", x.ways(2), 1);
        DUE.same("the 511th call", x.slack(2, 0), 30);
        DUE.same("the 512th call", x.path(1, 0), -19);
        PathTiming y = Nets.inputToOutput();
        y.analyse();
        for (int call = 8; call < 512; call++) {
            y.element(1, 1, 1);
        }
        DUE.same("the 512th call, of many questions", y.element(1, 0, 1), 17);
    }

    /** Promise 11: "how many ends have a timing path". */
    private static void endsWithTimingPaths() {
        for (int outputs = 0; outputs <= 46; outputs++) {
            PathTiming x = Nets.fan(outputs);
            DUE.same("ends", x.analyse(), outputs);
            DUE.same("two each", x.paths(), 2 * outputs);
        }
        PathTiming y = Nets.twoRegisters();
        DUE.same("pin 0 of the other has no wire", y.analyse(), 1);
        y.wire(1, 0, 2, 0, 0);
        DUE.same("both", y.analyse(), 2);
        y.register();
        y.wire(3, 0, 1, 0, 0);
        DUE.same("an end without a clock way", y.analyse(), 2);
        y.wire(3, 1, 0, 0, 0);
        DUE.same("with one", y.analyse(), 3);
    }

    /** "TANGLE when a register has more than 8 clock ways". */
    private static void eightClockWays() {
        int[][] pins = {{1, 1}, {1, 2}, {1, 3}, {2, 1}, {2, 2}, {2, 3}, {3, 2}};
        for (int[] p : pins) {
            PathTiming x = Nets.tangle(p[0], p[1]);
            DUE.same("no tangle", x.analyse(), 0);
            DUE.same("ways", x.ways(1), p[0] * p[1]);
        }
        PathTiming seven = Nets.tangle(3, 2);
        seven.wire(3, 2, 0, 0, 0);
        DUE.same("seven are no tangle", seven.analyse(), 0);
        DUE.same("seven", seven.ways(1), 7);
        PathTiming x = Nets.tangle(2, 2);
        x.sense(2, 0, 2);
        x.sense(2, 1, 2);
        DUE.same("eight are no tangle", x.analyse(), 0);
        DUE.same("eight", x.ways(1), 8);
        x.wire(3, 2, 0, 0, 0);
        DUE.same("nine are one", x.analyse(), PathTiming.TANGLE);
        DUE.state("nothing is analysed", () -> x.ways(1));
        DUE.state("nothing at all", () -> x.paths());
        DUE.same("a tangle is no cycle", x.cycle(), NONE);
        DUE.same("nine by three and three", Nets.tangle(3, 3).analyse(), PathTiming.TANGLE);
        x.wire(3, 2, 1, 0, 0);
        DUE.same("eight again", x.analyse(), 0);
        DUE.same("eight ways again", x.ways(1), 8);
    }

    /** 8 ways to each of many registers, and one register more that has 9. */
    private static void eightWaysOfManyRegisters() {
        PathTiming x = Nets.tangle(2, 2);
        x.sense(2, 0, 2);
        x.sense(2, 1, 2);
        for (int register = 4; register < 46; register++) {
            x.register();
            x.wire(register, 1, 3, 0, 0);
        }
        x.wire(45, 0, 45, 0, 0);
        DUE.same("one end", x.analyse(), 1);
        for (int register = 4; register < 46; register++) {
            DUE.same("ways", x.ways(register), 8);
        }
        DUE.same("each way with each, two changes", x.paths(), 8 * 8 * 2);
        x.gate(2);
        x.wire(46, 0, 3, 0, 0);
        x.wire(46, 1, 0, 0, 0);
        x.register();
        x.analyse();
        DUE.same("no way yet", x.ways(47), 0);
        x.wire(47, 1, 46, 0, 0);
        DUE.same("one of all has nine", x.analyse(), PathTiming.TANGLE);
    }

    private static void nineWaysToNoRegister() {
        PathTiming x = Nets.tangle(3, 3);
        x.wire(1, 1, 2, 0, 0);
        DUE.same("nine ways to a gate alone", x.analyse(), 0);
        DUE.same("three ways", x.ways(1), 3);
        x.wire(1, 0, 3, 0, 0);
        DUE.same("nine ways to pin 0", x.analyse(), 0);
        x.output();
        x.wire(4, 0, 3, 0, 0);
        DUE.same("nine ways to an output", x.analyse(), 0);
        PathTiming y = Nets.tangle(3, 3);
        y.input(0, 0, 0, 0);
        for (int pin = 0; pin < 3; pin++) {
            y.wire(2, pin, 4, 0, 0);
        }
        DUE.same("nine ways from an input", y.analyse(), 0);
        DUE.same("none of the clock's", y.ways(1), 0);
    }

    /** One way to register 1 over 23 gates, beside 23 gates with more ways than can be counted. */
    private static void veryManyWaysToNoRegister() {
        PathTiming x = new PathTiming();
        x.register();
        for (int gate = 2; gate < 48; gate++) {
            x.gate(3);
            x.wire(gate, 0, gate <= 3 ? 0 : gate - 2, 0, 0);
        }
        x.wire(1, 1, 47, 0, 0);
        x.analyse();
        DUE.same("one way by the odd gates", x.ways(1), 1);
        x.wire(1, 1, 46, 0, 0);
        x.analyse();
        DUE.same("one way by the even gates", x.ways(1), 1);
        for (int gate = 3; gate < 48; gate += 2) {
            for (int pin = 0; pin < 3; pin++) {
                x.wire(gate, pin, gate <= 3 ? 0 : gate - 2, 0, 0);
                x.sense(gate, pin, 2);
            }
        }
        x.wire(1, 0, 1, 0, 0);
        DUE.same("very many ways by the odd gates, to no register", x.analyse(), 1);
        DUE.same("one way by the even gates still", x.ways(1), 1);
        DUE.same("which is told", x.element(0, 0, 23), 8 * 46);
        x.wire(1, 1, 47, 0, 0);
        DUE.same("very many ways to a register", x.analyse(), PathTiming.TANGLE);
        x.wire(1, 1, 46, 0, 0);
        x.analyse();
        DUE.same("one way again", x.ways(1), 1);
    }

    private static void cycleBeforeTangle() {
        PathTiming x = Nets.tangle(3, 3);
        x.gate(1);
        x.wire(4, 0, 4, 0, 0);
        DUE.same("both", x.analyse(), PathTiming.CYCLE);
        DUE.state("nothing is analysed", () -> x.paths());
        x.wire(4, 0, 0, 0, 0);
        DUE.same("a tangle alone", x.analyse(), PathTiming.TANGLE);
        x.wire(3, 2, 3, 0, 0);
        DUE.same("a cycle on the clock's own way", x.analyse(), PathTiming.CYCLE);
    }

    /** Promise 12. */
    private static void leastGateOfACycle() {
        PathTiming x = new PathTiming();
        for (int gate = 1; gate < 48; gate++) {
            x.gate(2);
        }
        DUE.same("47 gates without wires", x.cycle(), NONE);
        for (int gate = 2; gate < 48; gate++) {
            x.wire(gate, 0, gate - 1, 0, 0);
        }
        DUE.same("a chain of 47", x.cycle(), NONE);
        x.wire(47, 1, 47, 0, 0);
        DUE.same("the last alone", x.cycle(), 47);
        x.wire(46, 1, 47, 0, 0);
        DUE.same("the last two", x.cycle(), 46);
        x.wire(3, 1, 5, 0, 0);
        DUE.same("the lesser of two cycles, behind gates that are on none", x.cycle(), 3);
        x.wire(1, 1, 47, 0, 0);
        DUE.same("all 47", x.cycle(), 1);
        DUE.same("analyse()", x.analyse(), PathTiming.CYCLE);
        DUE.same("the same afterwards", x.cycle(), 1);
        x.wire(1, 1, 0, 0, 0);
        DUE.same("not analysed again", x.cycle(), 3);
        x.wire(3, 1, 0, 0, 0);
        x.wire(46, 1, 0, 0, 0);
        DUE.same("one is left", x.cycle(), 47);
        x.wire(47, 1, 0, 0, 0);
        DUE.same("none is left", x.cycle(), NONE);
        DUE.same("and there is something to analyse", x.analyse(), 0);
    }

    /** "gates that steps lead round (whatever the changes)". */
    private static void ringsThatAreNoCycle() {
        PathTiming x = new PathTiming();
        x.register();
        x.gate(1);
        x.gate(1);
        x.wire(2, 0, 1, 0, 0);
        x.wire(3, 0, 2, 0, 0);
        x.wire(1, 0, 3, 0, 0);
        x.wire(1, 1, 3, 0, 0);
        DUE.same("by both pins of a register", x.cycle(), NONE);
        DUE.same("which is analysed", x.analyse(), 0);
        x.wire(1, 0, 1, 0, 0);
        x.wire(1, 1, 1, 0, 0);
        DUE.same("a register from itself", x.cycle(), NONE);
        x.wire(2, 0, 3, 0, 0);
        for (int senses = 0; senses < 9; senses++) {
            x.sense(2, 0, senses % 3);
            x.sense(3, 0, senses / 3);
            DUE.same("two gates, whatever their senses", x.cycle(), 2);
        }
    }

    /** Promise 14. */
    private static void arrivalAtEachKind() {
        PathTiming x = Nets.through();
        x.register();
        x.wire(3, 1, 0, 100, 200);
        x.delay(3, 1, 0, 10, 20);
        x.gate(1);
        x.wire(4, 0, 3, 1, 2);
        x.analyse();
        DUE.same("of the clock", x.arrival(0, 0, 0, true), NONE);
        DUE.same("of an input its own", x.arrival(1, 0, 0, true), 0);
        DUE.same("of an input, never by the width", x.arrival(1, 0, 1, true), NONE);
        DUE.same("of an output, to its pin 0", x.arrival(2, 0, 0, true), 0);
        DUE.same("of a register not what begins there", x.arrival(3, 0, 0, true), NONE);
        DUE.same("which the gate behind it has", x.arrival(4, 0, 0, true), 222);
        x.wire(3, 0, 4, 1000, 2000);
        x.analyse();
        DUE.same("of a register, to its pin 0", x.arrival(3, 0, 0, true), 2222);
        DUE.same("of a register, to its pin 0, early", x.arrival(3, 0, 0, false), 1111);
        x.wire(3, 0, 0, 0, 0);
        x.analyse();
        DUE.same("not from the clock", x.arrival(3, 0, 0, true), NONE);
    }

    /** Both bases at one gate, each with a least and a greatest delay. */
    private static void arrivalByBase() {
        PathTiming x = Nets.halfPeriods();
        x.gate(2);
        x.wire(4, 0, 1, 1, 2);
        x.wire(4, 1, 2, 3, 4);
        x.sense(3, 0, 2);
        x.delay(3, 0, 0, 10, 20);
        x.analyse();
        DUE.same("base 0, early: register 1", x.arrival(4, 0, 0, false), 1);
        DUE.same("base 0, late: register 2", x.arrival(4, 0, 0, true), 24);
        DUE.same("base 1, early: with the width", x.arrival(4, 0, 1, false), 40 + 13);
        DUE.same("base 1, late: with the width", x.arrival(4, 0, 1, true), 40 + 24);
        x.sense(4, 1, 1);
        x.delay(2, 1, 1, 5, 5);
        x.analyse();
        DUE.same("a fall that comes as a rise", x.arrival(4, 0, 1, true), 40 + 29);
        DUE.same("a rise that comes as a fall", x.arrival(4, 1, 1, true), 40 + 24);
    }

    /** Promise 15: "NONE when it has no timing path". */
    private static void slackOfEndsWithout() {
        PathTiming x = Nets.through();
        int register = x.register();
        int output = x.output();
        x.analyse();
        for (int check = 0; check < 2; check++) {
            DUE.same("a register without wires", x.slack(register, check), NONE);
            DUE.same("an output without a wire", x.slack(output, check), NONE);
        }
        x.wire(register, 0, 1, 0, 0);
        x.wire(output, 0, register, 0, 0);
        x.analyse();
        for (int check = 0; check < 2; check++) {
            DUE.same("a register without a clock way", x.slack(register, check), NONE);
            DUE.same("an output behind it", x.slack(output, check), NONE);
        }
        x.wire(register, 1, 0, 0, 0);
        x.analyse();
        DUE.same("with a clock way", x.slack(register, 0), 1000);
        DUE.same("the output behind it", x.slack(output, 0), 1000);
    }

    /** Promise 16. */
    private static void worstAroundZero() {
        for (int over = -1; over <= 1; over++) {
            PathTiming x = Nets.fan(3);
            x.check(3, 0, 1000 + over, over);
            x.analyse();
            DUE.same("setup", x.worst(0), -over);
            DUE.same("hold: the others have 0", x.worst(1), Math.min(0, -over));
            DUE.same("the first path's slack", x.path(0, 0), x.worst(0));
            DUE.same("the first path's slack, hold", x.path(1, 0), x.worst(1));
        }
    }

    /** Promise 17: of each end its least slack alone, and only below 0. */
    private static void totalAroundZero() {
        PathTiming x = Nets.fan(4);
        x.check(2, 0, 1001, 1);
        x.check(2, 1, 1005, 7);
        x.check(3, 0, 1000, 0);
        x.check(4, 1, 999, -1);
        x.check(5, 0, 1100, 30);
        x.analyse();
        DUE.same("setup", x.total(0), -5 - 100);
        DUE.same("hold", x.total(1), -7 - 30);
        x.check(2, 0, 1000, 0);
        x.check(2, 1, 1000, 0);
        x.check(5, 0, 1000, 0);
        x.analyse();
        DUE.same("all at 0 or above, setup", x.total(0), 0);
        DUE.same("all at 0 or above, hold", x.total(1), 0);
        x.check(5, 1, 1001, 0);
        x.analyse();
        DUE.same("one below, setup", x.total(0), -1);
        DUE.same("none below, hold", x.total(1), 0);
    }

    /** Promise 18: "the least period above the width". */
    private static void leastPeriodAtTheWidth() {
        PathTiming x = Nets.through();
        for (int setup = 499; setup <= 503; setup++) {
            x.check(2, 0, setup, 0);
            x.analyse();
            DUE.same("setup " + setup, x.leastPeriod(), Math.max(501, setup));
        }
        x.check(2, 0, -10000, 0);
        x.check(2, 1, -10000, 0);
        x.analyse();
        DUE.same("far below the width", x.leastPeriod(), 501);
        x.clock(2, 1);
        x.analyse();
        DUE.same("the least of all", x.leastPeriod(), 2);
        x.clock(1000000, 999999);
        x.analyse();
        DUE.same("only one is above the width", x.leastPeriod(), 1000000);
        DUE.same("asking changes nothing", x.slack(2, 0), 1010000);
    }

    /** "NONE when there is none up to 1000000". */
    private static void leastPeriodAtTheTop() {
        int[] due = {999999, 1000000, NONE, NONE};
        for (int more = -1; more <= 2; more++) {
            PathTiming x = new PathTiming();
            x.input(0, 1000000, 0, 0);
            x.output();
            x.wire(2, 0, 1, 0, 0);
            x.check(2, 0, more, 0);
            x.analyse();
            DUE.same("a need of 1000000 and " + more, x.leastPeriod(), due[more + 1]);
            x.clock(1000000, 999998);
            x.analyse();
            DUE.same("the same whatever the period", x.leastPeriod(), due[more + 1]);
            x.clock(1000000, 999999);
            x.analyse();
            DUE.same("above the width", x.leastPeriod(), more <= 0 ? 1000000 : NONE);
        }
    }

    /** A longer period does not help where the edge is the width: from 0 to 40. */
    private static void leastPeriodOfFixedEdges() {
        for (int late = 39; late <= 41; late++) {
            PathTiming x = Nets.halfPeriods();
            x.wire(2, 0, 1, 0, late);
            x.analyse();
            DUE.same("slack", x.slack(2, 0), 40 - late);
            DUE.same("from 0 to the width in " + late, x.leastPeriod(), late <= 40 ? 48 : NONE);
            x.clock(41, 40);
            x.analyse();
            DUE.same("the same with a short period", x.leastPeriod(), late <= 40 ? 48 : NONE);
        }
    }

    /** Promises 19 and 20: "more than 4000". */
    private static void fourThousandPaths() {
        PathTiming x = Nets.most();
        x.analyse();
        DUE.same("4000", x.paths(), 4000);
        DUE.same("the first", x.path(0, 0), 1000 - 9);
        DUE.same("the twentieth", x.path(1, 19), 0);
        DUE.same("its elements", x.element(1, 0, 0), 8);
        PathTiming y = Nets.tooMany();
        DUE.same("ends", y.analyse(), 15);
        DUE.same("4002", y.paths(), PathTiming.MANY);
        for (int check = 0; check < 2; check++) {
            int c = check;
            DUE.state("no first", () -> y.path(c, 0));
            DUE.state("no elements", () -> y.element(c, 0, 0));
            DUE.state("no elements, i below 0", () -> y.element(c, 0, -1));
        }
        DUE.same("the worst is told", y.worst(0), 1000 - 9);
        DUE.same("the slack of an end is told", y.slack(2, 1), 0);
        DUE.same("the total is told", y.total(1), 0);
        DUE.same("the least period is told", y.leastPeriod(), 501);
        DUE.same("arrivals are told", y.arrival(2, 0, 0, true), 9);
        y.wire(2, 0, 1, 0, 0);
        y.analyse();
        DUE.same("fewer again", y.paths(), 4002 - 1024 + 2);
        DUE.same("with a first", y.path(0, 0), 1000 - 9);
    }

    /** 8 ways at the start and 8 at the end are 64 timing paths for each change and row of gates. */
    private static void fourThousandByClockWays() {
        PathTiming x = Nets.tangle(2, 2);
        x.sense(2, 0, 2);
        x.sense(2, 1, 2);
        int end = x.register();
        x.wire(end, 1, 3, 0, 0);
        int from = 1;
        for (int pins : new int[] {3, 3, 3}) {
            int gate = x.gate(pins);
            for (int pin = 0; pin < pins; pin++) {
                x.wire(gate, pin, from, 0, 0);
            }
            from = gate;
        }
        x.wire(end, 0, from, 0, 0);
        x.analyse();
        DUE.same("27 data ways", x.paths(), 27 * 2 * 64);
        int third = x.register();
        x.wire(third, 1, 0, 0, 0);
        x.wire(third, 0, from, 0, 0);
        x.analyse();
        DUE.same("and 27 to an end with one way", x.paths(), 27 * 2 * 64 + 27 * 2 * 8);
        x.wire(third, 0, 1, 0, 0);
        x.wire(third, 1, 3, 0, 0);
        x.analyse();
        DUE.same("or one to an end with eight", x.paths(), 27 * 2 * 64 + 2 * 64);
        x.wire(third, 0, 6, 0, 0);
        x.analyse();
        DUE.same("9 more", x.paths(), PathTiming.MANY);
        DUE.state("which are 4608", () -> x.path(0, 0));
    }

    /** "k is not 0 to 19, or there are not so many". */
    private static void firstTwenty() {
        for (int outputs : new int[] {0, 1, 9, 10, 11, 40}) {
            PathTiming x = Nets.fan(outputs);
            x.analyse();
            int told = Math.min(20, 2 * outputs);
            for (int check = 0; check < 2; check++) {
                int c = check;
                for (int k = 0; k < told; k++) {
                    DUE.same("path " + k, x.path(c, k), c == 0 ? 1000 : 0);
                    DUE.same("element of path " + k, x.element(c, k, 0), k < outputs ? 8 : 9);
                }
                for (int wrong : new int[] {LOWEST, -1, told, told + 1, 20, 21, HIGHEST}) {
                    DUE.place("path " + wrong + " of " + 2 * outputs, () -> x.path(c, wrong));
                    DUE.place("element of path " + wrong + " of " + 2 * outputs, () -> x.element(c, wrong, 0));
                }
            }
        }
    }

    /** Of more than 20 that have one slack, the least rows are told, whenever they are come to. */
    private static void twentiethOfEqualSlacks() {
        PathTiming x = new PathTiming();
        for (int i = 0; i < 12; i++) {
            x.output();
        }
        int input = x.input(0, 0, 0, 0);
        int other = x.input(0, 0, 0, 0);
        for (int output = 1; output <= 12; output++) {
            x.wire(output, 0, output % 2 == 0 ? input : other, 0, 0);
        }
        x.analyse();
        DUE.same("24", x.paths(), 24);
        for (int check = 0; check < 2; check++) {
            for (int k = 0; k < 20; k++) {
                int change = k / 6 % 2;
                int start = 8 * (k < 12 ? input : other) + change;
                int end = 2 * (k % 6 + 1) - (k < 12 ? 0 : 1);
                DUE.same("start of path " + k, x.element(check, k, 0), start);
                DUE.same("end of path " + k, x.element(check, k, 1), 8 * end + change);
            }
        }
        x.check(11, 1, 1, 1);
        x.analyse();
        DUE.same("the last of all is the first if its slack is less", x.element(0, 0, 1), 89);
        DUE.same("in hold, too", x.element(1, 0, 1), 89);
        DUE.same("the others follow", x.element(0, 1, 0), 8 * input);
    }

    /** Promise 21: "-1 when it has not so many, or i is below 0". */
    private static void elementPlaces() {
        PathTiming x = Nets.chain(1, 1, 1);
        x.analyse();
        for (int check = 0; check < 2; check++) {
            for (int k = 0; k < 2; k++) {
                DUE.row(x, check, k, 8 + k, 24 + k, 32 + k, 40 + k, 16 + k);
                for (int i : new int[] {LOWEST, -2, -1, 5, 6, 144, 145, HIGHEST}) {
                    DUE.same("element " + i, x.element(check, k, i), -1);
                }
            }
        }
        PathTiming y = Nets.sample();
        y.analyse();
        for (int k = 0; k < 16; k++) {
            int length = 0;
            while (y.element(0, k, length) >= 0 && length < 20) {
                length++;
            }
            DUE.same("behind the row of path " + k, y.element(0, k, length + 1), -1);
            DUE.same("far behind", y.element(0, k, length + 100), -1);
        }
    }
}
