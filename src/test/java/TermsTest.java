/**
 * "Terms", sentence by sentence, where it names a boundary: ways without a step, ways that share
 * nothing, a part, or all, edges at and beside the start's base, slacks that are the same.
 */
public final class TermsTest {
    private static final int NONE = Integer.MIN_VALUE;
    private static final Due DUE = new Due();

    public static void main(String[] args) {
        clockTurns();
        pinsWithoutWires();
        stepDelays();
        elementsOfTheLastNode();
        shortestClockWays();
        risesAtTheRegister();
        noClockWays();
        shortestDataWays();
        startsOfOneRegister();
        nothingBeginsAtTheClock();
        edges();
        edgesOfNarrowClocks();
        creditOfTheClockAlone();
        creditOfAllStepsButTheWire();
        creditOfTheSameWay();
        creditOfTwoWaysToOneRegister();
        creditEndsAtTheFirstDifference();
        creditOfOtherChanges();
        noCreditWithInputOrOutput();
        slackParts();
        orderBySlack();
        orderByRows();
        orderOfEndsAndClockWays();
        DUE.finish();
    }

    /** Register 1 on a clock way by gate 2, wired to output 3. */
    private static PathTiming behindGate(int sense) {
        PathTiming x = new PathTiming();
        x.clock(100, 40);
        x.register();
        x.gate(1);
        x.sense(2, 0, sense);
        x.wire(2, 0, 0, 0, 0);
        x.wire(1, 1, 2, 0, 0);
        x.output();
        x.wire(3, 0, 1, 0, 0);
        return x;
    }

    /** "The clock rises at 0 and falls at its width". */
    private static void clockTurns() {
        PathTiming x = behindGate(0);
        x.analyse();
        DUE.same("the clock rises at 0", x.arrival(3, 0, 0, true), 0);
        DUE.same("not at its width", x.arrival(3, 0, 1, true), NONE);
        PathTiming y = behindGate(1);
        y.analyse();
        DUE.same("the clock falls at its width", y.arrival(3, 0, 1, true), 40);
        DUE.same("not at 0", y.arrival(3, 0, 0, true), NONE);
    }

    /** "A pin may have a wire". */
    private static void pinsWithoutWires() {
        PathTiming x = Nets.through();
        int gate = x.gate(3);
        int register = x.register();
        int output = x.output();
        DUE.same("only the wired output is an end with a path", x.analyse(), 1);
        for (int node : new int[] {gate, register, output}) {
            DUE.same("no arrival at node " + node, x.arrival(node, 0, 0, true), NONE);
        }
        x.wire(output, 0, gate, 0, 0);
        DUE.same("nothing comes by a gate without wires", x.analyse(), 1);
        x.wire(gate, 2, 1, 0, 0);
        DUE.same("one wired pin is enough", x.analyse(), 2);
        DUE.same("and the only one by which it is come to", x.paths(), 4);
    }

    /** "Its delay are the wire's and that of the gate's pin for the change to which it goes, together." */
    private static void stepDelays() {
        PathTiming x = new PathTiming();
        x.input(1000, 2000, 3000, 4000);
        x.gate(2);
        x.wire(2, 1, 1, 100, 200);
        x.delay(2, 1, 0, 1, 2);
        x.delay(2, 1, 1, 3, 5);
        x.delay(2, 0, 0, 50, 60);
        x.sense(2, 1, 1);
        x.analyse();
        DUE.same("from a fall to a rise, early", x.arrival(2, 0, 0, false), 3000 + 100 + 1);
        DUE.same("from a fall to a rise, late", x.arrival(2, 0, 0, true), 4000 + 200 + 2);
        DUE.same("from a rise to a fall, early", x.arrival(2, 1, 0, false), 1000 + 100 + 3);
        DUE.same("from a rise to a fall, late", x.arrival(2, 1, 0, true), 2000 + 200 + 5);
    }

    /** "An element is 8 times a node, 2 times the pin .., and the change, together." */
    private static void elementsOfTheLastNode() {
        PathTiming x = Nets.fan(45);
        int gate = x.gate(3);
        DUE.same("the last node", gate, 47);
        x.wire(gate, 2, 1, 0, 0);
        x.sense(gate, 2, 1);
        x.delay(gate, 2, 1, 7, 7);
        x.wire(46, 0, gate, 0, 0);
        x.analyse();
        DUE.same("the slowest", x.path(0, 0), 1000 - 7);
        DUE.row(x, 0, 0, 8, 8 * 47 + 2 * 2 + 1, 8 * 46 + 1);
    }

    /** "from the clock with a change, over any number of steps": none, too. */
    private static void shortestClockWays() {
        PathTiming x = new PathTiming();
        x.clock(100, 40);
        x.register();
        x.wire(1, 1, 0, 3, 5);
        x.output();
        x.wire(2, 0, 1, 0, 0);
        x.analyse();
        DUE.same("one way, by the wire alone", x.ways(1), 1);
        DUE.same("with the wire's delay, early", x.arrival(2, 0, 0, false), 3);
        DUE.same("with the wire's delay, late", x.arrival(2, 0, 0, true), 5);
        DUE.row(x, 0, 0, 0, 10, 16);
        DUE.row(x, 0, 1, 0, 11, 17);
    }

    /** "by the wire to its pin CK, at which it must rise". */
    private static void risesAtTheRegister() {
        int[] ways = {1, 1, 2};
        for (int sense = 0; sense <= 2; sense++) {
            PathTiming x = behindGate(sense);
            x.analyse();
            DUE.same("ways by a gate with sense " + sense, x.ways(1), ways[sense]);
        }
        PathTiming y = behindGate(1);
        y.gate(1);
        y.sense(4, 0, 1);
        y.wire(4, 0, 2, 0, 0);
        y.wire(1, 1, 4, 0, 0);
        y.analyse();
        DUE.same("turned twice", y.ways(1), 1);
        DUE.row(y, 0, 0, 0, 17, 32, 10, 24);
        y.sense(4, 0, 0);
        y.analyse();
        DUE.row(y, 0, 0, 1, 16, 32, 10, 24);
    }

    private static void noClockWays() {
        PathTiming x = behindGate(0);
        int input = x.input(0, 0, 0, 0);
        int register = x.register();
        for (int from : new int[] {input, register, 1}) {
            x.wire(2, 0, from, 0, 0);
            DUE.same("no end has a path", x.analyse(), 0);
            DUE.same("no way from node " + from + " over a gate", x.ways(1), 0);
        }
        x.wire(1, 1, input, 0, 0);
        x.analyse();
        DUE.same("no way from an input", x.ways(1), 0);
        x.wire(1, 1, register, 0, 0);
        x.wire(register, 1, 0, 0, 0);
        x.analyse();
        DUE.same("no way by another register", x.ways(1), 0);
        DUE.same("though that has one", x.ways(register), 1);
    }

    /** "from a start by any number of steps, and by a wire to an end": none, too. */
    private static void shortestDataWays() {
        PathTiming x = new PathTiming();
        x.clock(100, 40);
        x.input(1, 2, 3, 5);
        x.register();
        x.register();
        x.output();
        x.wire(2, 1, 0, 0, 0);
        x.wire(3, 1, 0, 0, 0);
        x.wire(2, 0, 1, 10, 20);
        x.wire(3, 0, 3, 30, 40);
        x.wire(4, 0, 1, 50, 60);
        DUE.same("three ends", x.analyse(), 3);
        DUE.same("two changes each", x.paths(), 6);
        DUE.same("from an input to a register", x.slack(2, 0), 100 - 5 - 20);
        DUE.same("from a register to itself", x.slack(3, 0), 100 - 40);
        DUE.same("from an input to an output", x.slack(4, 0), 100 - 5 - 60);
        DUE.row(x, 0, 0, 9, 33);
        DUE.row(x, 0, 2, 0, 26, 24, 0);
        DUE.row(x, 0, 4, 9, 17, 0);
    }

    /** "a register with a clock way and a change": each way with each change. */
    private static void startsOfOneRegister() {
        PathTiming x = behindGate(2);
        x.delay(1, 1, 1, 6, 7);
        x.analyse();
        DUE.same("two ways, two changes", x.paths(), 4);
        DUE.row(x, 0, 0, 1, 16, 11, 25);
        DUE.row(x, 0, 1, 1, 16, 10, 24);
        DUE.row(x, 0, 2, 0, 16, 11, 25);
        DUE.row(x, 0, 3, 0, 16, 10, 24);
        DUE.same("from the width, fall", x.path(0, 0), 100 - 40 - 7);
        DUE.same("from the width, rise", x.path(0, 1), 100 - 40);
        DUE.same("from 0, fall", x.path(0, 2), 100 - 7);
        DUE.same("from 0, rise", x.path(0, 3), 100);
    }

    private static void nothingBeginsAtTheClock() {
        PathTiming x = Nets.through();
        x.wire(2, 0, 0, 0, 0);
        DUE.same("from the clock to an output", x.analyse(), 0);
        x.gate(2);
        x.wire(3, 0, 0, 0, 0);
        x.wire(3, 1, 1, 5, 5);
        x.wire(2, 0, 3, 0, 0);
        x.analyse();
        DUE.same("from the clock over a gate", x.paths(), 2);
        DUE.same("only the input's time", x.arrival(3, 0, 0, false), 5);
    }

    /** "the base at the end, and the period more if that is not above the base of the start". */
    private static void edges() {
        PathTiming x = Nets.halfPeriods();
        x.analyse();
        DUE.same("from 0 to the width: above, setup", x.slack(2, 0), 40 - 6);
        DUE.same("from 0 to the width: above, hold", x.slack(2, 1), 5 - 40 + 100);
        DUE.same("from the width to 0: below, setup", x.slack(1, 0), 100 - 40 - 8);
        DUE.same("from the width to 0: below, hold", x.slack(1, 1), 40 + 7);
        x.wire(1, 0, 1, 7, 8);
        x.wire(2, 0, 2, 5, 6);
        x.analyse();
        DUE.same("from 0 to 0: the same, setup", x.slack(1, 0), 100 - 8);
        DUE.same("from 0 to 0: the same, hold", x.slack(1, 1), 7);
        DUE.same("from the width to the width: the same, setup", x.slack(2, 0), 100 - 6);
        DUE.same("from the width to the width: the same, hold", x.slack(2, 1), 5);
        int input = x.input(0, 0, 0, 0);
        int output = x.output();
        x.wire(1, 0, input, 7, 8);
        x.wire(2, 0, input, 5, 6);
        x.wire(output, 0, 2, 1, 3);
        x.analyse();
        DUE.same("an input has base 0, to 0", x.slack(1, 0), 100 - 8);
        DUE.same("an input has base 0, to the width", x.slack(2, 0), 40 - 6);
        DUE.same("an output has base 0, from the width", x.slack(output, 0), 100 - 40 - 3);
        DUE.same("an output has base 0, from the width, hold", x.slack(output, 1), 40 + 1);
        x.wire(output, 0, 1, 1, 3);
        x.analyse();
        DUE.same("an output has base 0, from 0", x.slack(output, 0), 100 - 3);
        x.wire(output, 0, input, 1, 3);
        x.analyse();
        DUE.same("both have base 0", x.slack(output, 0), 100 - 3);
    }

    /** The bases may be as near as 1, from either side. */
    private static void edgesOfNarrowClocks() {
        int[][] clocks = {{2, 1}, {1000000, 1}, {1000000, 999999}};
        for (int[] c : clocks) {
            PathTiming x = Nets.halfPeriods();
            x.clock(c[0], c[1]);
            x.wire(2, 0, 1, 0, 0);
            x.wire(1, 0, 2, 0, 0);
            x.analyse();
            DUE.same("from 0 to " + c[1], x.slack(2, 0), c[1]);
            DUE.same("from 0 to " + c[1] + ", hold", x.slack(2, 1), c[0] - c[1]);
            DUE.same("from " + c[1] + " to " + c[0], x.slack(1, 0), c[0] - c[1]);
            DUE.same("from " + c[1] + " to " + c[0] + ", hold", x.slack(1, 1), c[1]);
        }
    }

    /**
     * Clock 1000, 400; gates 1 and 2 behind the clock, one behind the other; registers 3, on gate 1,
     * and 4, on gate 2, each wired to the other. The ways: 11 to 33 for the first step,
     * 22 to 66 for the second, 1 to 4 and 2 to 9 for the wires to pin CK.
     */
    private static PathTiming shared() {
        PathTiming x = new PathTiming();
        x.clock(1000, 400);
        x.gate(2);
        x.gate(2);
        x.wire(1, 0, 0, 10, 30);
        x.delay(1, 0, 0, 1, 3);
        x.wire(2, 0, 1, 20, 60);
        x.delay(2, 0, 0, 2, 6);
        x.register();
        x.register();
        x.wire(3, 1, 1, 1, 4);
        x.wire(4, 1, 2, 2, 9);
        x.wire(4, 0, 3, 0, 0);
        x.wire(3, 0, 4, 0, 0);
        return x;
    }

    /** "begin with the same elements (at least one): .. all steps to these but the first". */
    private static void creditOfTheClockAlone() {
        PathTiming x = shared();
        x.wire(2, 0, 0, 20, 60);
        x.analyse();
        DUE.same("they share the clock's element, no step", x.slack(4, 0), 1000 + 24 - 37);
        DUE.same("the same, hold", x.slack(4, 1), 12 - 75);
        x.wire(3, 1, 0, 1, 4);
        x.wire(4, 1, 0, 2, 9);
        x.analyse();
        DUE.same("two wires from the clock, setup", x.slack(4, 0), 1000 + 2 - 4);
        DUE.same("two wires from the clock, hold", x.slack(4, 1), 1 - 9);
        DUE.same("the other way round, setup", x.slack(3, 0), 1000 + 1 - 9);
        DUE.same("the other way round, hold", x.slack(3, 1), 2 - 4);
    }

    private static void creditOfAllStepsButTheWire() {
        PathTiming x = shared();
        x.analyse();
        DUE.same("one step of two, setup", x.slack(4, 0), 1000 + 35 + 22 - 37);
        DUE.same("one step of two, hold", x.slack(4, 1), 12 + 22 - 108);
        DUE.same("the other way round, setup", x.slack(3, 0), 1000 + 12 + 22 - 108);
        DUE.same("the other way round, hold", x.slack(3, 1), 35 + 22 - 37);
        x.wire(3, 1, 2, 1, 4);
        x.analyse();
        DUE.same("the same elements to two registers, setup", x.slack(4, 0), 1000 + 35 + 66 - 103);
        DUE.same("the same elements to two registers, hold", x.slack(4, 1), 34 + 66 - 108);
    }

    /** "if it is the same way to the same register, its last wire's, too". */
    private static void creditOfTheSameWay() {
        PathTiming x = shared();
        x.wire(4, 0, 4, 0, 0);
        x.wire(3, 0, 3, 0, 0);
        x.analyse();
        DUE.same("over two steps, setup", x.slack(4, 0), 1000);
        DUE.same("over two steps, hold", x.slack(4, 1), 0);
        DUE.same("over one step, setup", x.slack(3, 0), 1000);
        x.wire(3, 1, 0, 1, 4);
        x.analyse();
        DUE.same("over no step, setup", x.slack(3, 0), 1000);
        DUE.same("over no step, hold", x.slack(3, 1), 0);
    }

    /** Both ways end with the same wire, but they are not the same way. */
    private static void creditOfTwoWaysToOneRegister() {
        PathTiming x = shared();
        x.wire(2, 1, 1, 25, 65);
        x.delay(2, 1, 0, 2, 6);
        x.wire(4, 0, 4, 0, 0);
        x.wire(3, 0, 3, 0, 0);
        x.analyse();
        DUE.same("two ways", x.ways(4), 2);
        // By pin 0: 35 to 108; by pin 1: 40 to 113. They share 22.
        DUE.same("the later way starts, the sooner ends", x.path(0, 0), 1000 + 35 + 22 - 113);
        DUE.row(x, 0, 0, 0, 8, 18, 34, 32, 0, 8, 16);
        DUE.row(x, 0, 1, 0, 8, 18, 35, 33, 0, 8, 16);
        DUE.same("the sooner way starts, the later ends", x.path(0, 2), 1000 + 40 + 22 - 108);
        DUE.row(x, 0, 2, 0, 8, 16, 34, 32, 0, 8, 18);
        DUE.same("hold", x.path(1, 0), 35 + 22 - 113);
        DUE.row(x, 1, 0, 0, 8, 16, 34, 32, 0, 8, 18);
    }

    /** Ways that part and come together again: only what they begin with is shared. */
    private static void creditEndsAtTheFirstDifference() {
        PathTiming x = shared();
        x.wire(1, 1, 0, 10, 30);
        x.delay(1, 1, 0, 1, 3);
        x.wire(4, 0, 4, 0, 0);
        x.analyse();
        DUE.same("by two pins of the first gate", x.ways(4), 2);
        // The second step is the same, but behind another element.
        DUE.same("to itself, by the other way", x.slack(4, 0), 1000 + 35 - 108);
        DUE.same("to itself, by the other way, hold", x.slack(4, 1), 35 - 108);
        DUE.same("to the other register, by the other way", x.slack(3, 0), 1000 + 12 - 108);
        DUE.same("to the other register, by the other way, hold", x.slack(3, 1), 35 - 37);
    }

    private static void creditOfOtherChanges() {
        PathTiming x = shared();
        x.wire(1, 1, 0, 10, 30);
        x.sense(1, 1, 1);
        x.delay(1, 1, 0, 1, 3);
        x.wire(4, 0, 4, 0, 0);
        x.wire(3, 0, 3, 0, 0);
        x.analyse();
        // From the rise to the fall: edge 400; from the fall (400) to the rise: edge 1000.
        DUE.same("from another change of the clock: no credit", x.slack(4, 0), 400 + 35 - 108);
        DUE.same("one step, no credit", x.slack(3, 0), 400 + 12 - 37);
        DUE.same("hold: eight of the same way to the same register", x.path(1, 7), 0);
        DUE.same("hold: from the fall to the rise", x.path(1, 8), 400 + 35 - 108);
        DUE.same("hold: from the fall to the rise, one step", x.path(1, 10), 400 + 12 - 37);
        DUE.same("hold: from the rise to the fall", x.path(1, 12), 600 + 35 - 108);
    }

    /** "and with an input or output, 0". */
    private static void noCreditWithInputOrOutput() {
        PathTiming x = shared();
        int input = x.input(0, 0, 0, 0);
        int output = x.output();
        x.wire(4, 0, input, 0, 0);
        x.wire(output, 0, 4, 0, 0);
        x.analyse();
        DUE.same("from an input, setup", x.slack(4, 0), 1000 + 35);
        DUE.same("from an input, hold", x.slack(4, 1), -108);
        DUE.same("to an output, setup", x.slack(output, 0), 1000 - 108);
        DUE.same("to an output, hold", x.slack(output, 1), 35);
        x.wire(output, 0, input, 0, 0);
        x.analyse();
        DUE.same("from an input to an output, setup", x.slack(output, 0), 1000);
        DUE.same("from an input to an output, hold", x.slack(output, 1), 0);
    }

    /** Each part of a slack by itself: the setup of the change there, the early and late delays. */
    private static void slackParts() {
        PathTiming x = Nets.twoRegisters();
        x.gate(1);
        x.wire(3, 0, 1, 1, 10);
        x.delay(3, 0, 0, 100, 1000);
        x.delay(3, 0, 1, 200, 2000);
        x.sense(3, 0, 1);
        x.wire(2, 0, 3, 7, 11);
        x.analyse();
        // The register's fall (19 to 23) is the gate's rise, and the register's rise (13 to 17) its fall.
        DUE.same("rise, setup", x.path(0, 1), 100 + 3 - 29 - (2 + 23 + 10 + 1000 + 11));
        DUE.same("fall, setup", x.path(0, 0), 100 + 3 - 37 - (2 + 17 + 10 + 2000 + 11));
        DUE.same("rise, hold", x.path(1, 0), 1 + 19 + 1 + 100 + 7 - 5 - 31);
        DUE.same("fall, hold", x.path(1, 1), 1 + 13 + 1 + 200 + 7 - 5 - 41);
        DUE.row(x, 0, 0, 0, 10, 25, 17, 0);
        DUE.row(x, 0, 1, 0, 11, 24, 16, 0);
        DUE.row(x, 1, 0, 0, 11, 24, 16, 0);
        DUE.row(x, 1, 1, 0, 10, 25, 17, 0);
    }

    /** "ordered by their slack, the least first": below 0, 0, above, whatever the rows. */
    private static void orderBySlack() {
        PathTiming x = Nets.fan(3);
        int[] setups = {1001, 999, 1000};
        for (int i = 0; i < 3; i++) {
            x.check(2 + i, 0, setups[i], -setups[i]);
            x.check(2 + i, 1, setups[i], -setups[i]);
        }
        x.analyse();
        int[] ends = {2, 4, 3};
        for (int k = 0; k < 6; k++) {
            DUE.same("setup, place " + k, x.path(0, k), k / 2 - 1);
            DUE.row(x, 0, k, 8 + k % 2, 8 * ends[k / 2] + k % 2);
        }
        int[] byHold = {3, 4, 2};
        for (int k = 0; k < 4; k++) {
            DUE.row(x, 1, k, 8 + k % 2, 8 * byHold[k / 2] + k % 2);
        }
    }

    /** "then by their rows: the one with the lesser element at the first place where they differ". */
    private static void orderByRows() {
        PathTiming x = new PathTiming();
        x.gate(2);
        x.output();
        x.input(0, 0, 0, 0);
        x.input(0, 0, 0, 0);
        x.wire(1, 0, 4, 0, 0);
        x.wire(1, 1, 3, 0, 0);
        x.wire(2, 0, 1, 0, 0);
        x.sense(1, 0, 2);
        x.analyse();
        // The first element decides before the gate's pin, and the gate's change before the end's.
        int[][] due = {{24, 10, 16}, {25, 11, 17}, {32, 8, 16}, {32, 9, 17}, {33, 8, 16}, {33, 9, 17}};
        DUE.same("six of the same slack", x.paths(), due.length);
        for (int check = 0; check < 2; check++) {
            for (int k = 0; k < due.length; k++) {
                DUE.row(x, check, k, due[k]);
            }
        }
    }

    /**
     * Rows of the same start that differ at the end, in the clock's way to it, or in how long they
     * are. None begins another one: where one ends, the other is at the same node, and no cycle is.
     */
    private static void orderOfEndsAndClockWays() {
        PathTiming x = new PathTiming();
        x.register();
        x.output();
        x.gate(3);
        x.input(0, 0, 0, 0);
        x.wire(3, 0, 0, 0, 0);
        x.wire(3, 1, 0, 0, 0);
        x.wire(3, 2, 4, 0, 0);
        x.wire(1, 1, 3, 0, 0);
        x.wire(1, 0, 4, 0, 0);
        x.wire(2, 0, 3, 0, 0);
        x.output();
        x.wire(5, 0, 4, 0, 0);
        x.analyse();
        int[][] due = {{32, 8, 0, 24}, {32, 8, 0, 26}, {32, 28, 16}, {32, 40},
            {33, 9, 0, 24}, {33, 9, 0, 26}, {33, 29, 17}, {33, 41}};
        DUE.same("eight of the same slack", x.paths(), due.length);
        for (int check = 0; check < 2; check++) {
            for (int k = 0; k < due.length; k++) {
                DUE.same("slack of place " + k, x.path(check, k), check == 0 ? 1000 : 0);
                DUE.row(x, check, k, due[k]);
            }
        }
    }
}
