/**
 * Promises 2 to 10, argument by argument: the last value that is taken, with what it does, and the
 * first that is refused, on both sides; and that a refused call has changed nothing.
 */
public final class BoundsTest {
    private static final int LOWEST = Integer.MIN_VALUE;
    private static final int HIGHEST = Integer.MAX_VALUE;
    private static final int[] PINS_OF_SAMPLE = {0, 0, 2, 2, 2, 1, 1, 3};
    private static final int SAMPLE_NODES = PINS_OF_SAMPLE.length;
    private static final int[] NO_NODES = {LOWEST, -1, SAMPLE_NODES, 48, 1 << 29, HIGHEST};
    private static final int[] NO_BITS = {LOWEST, -1, 2, HIGHEST};
    /** Wires and delays: 0 to 10000, early not above late. */
    private static final int[][] DELAYS = {{0, 0}, {0, 10000}, {10000, 10000}, {9999, 10000}, {5, 5}};
    private static final int[][] NO_DELAYS = {
        {-1, -1}, {-1, 0}, {-1, 10000}, {0, 10001}, {10000, 10001}, {10001, 10001}, {1, 0}, {10000, 9999},
        {10001, 10000}, {0, -1}, {LOWEST, HIGHEST}, {LOWEST, 0}, {0, HIGHEST}, {HIGHEST, HIGHEST}, {LOWEST, LOWEST},
        {HIGHEST, LOWEST},
    };
    private static final Due DUE = new Due();
    private static final String ANALYSED = analysedSample();

    private interface Act {
        void on(PathTiming x);
    }

    public static void main(String[] args) {
        sampleTellsMuch();
        clockTaken();
        clockRefused();
        inputTaken();
        inputRefused();
        gateTaken();
        gateRefused();
        wirePins();
        wireSources();
        wireDelays();
        sensePins();
        senses();
        delayPins();
        delayChanges();
        delays();
        checkNodes();
        checkChanges();
        checkTimes();
        DUE.finish();
    }

    private static String analysedSample() {
        PathTiming x = Nets.sample();
        x.analyse();
        return Answers.of(x, SAMPLE_NODES - 1);
    }

    /** Twice: on what was analysed, which must stay, and on what was not, whose net must stay. */
    private static void refused(String what, Act call) {
        PathTiming x = Nets.sample();
        x.analyse();
        DUE.argument(what, () -> call.on(x));
        DUE.text(what + " is refused, what was analysed stays", Answers.of(x, SAMPLE_NODES - 1), ANALYSED);
        PathTiming y = Nets.sample();
        DUE.argument(what + ", not analysed", () -> call.on(y));
        DUE.state(what + " is refused, nothing is analysed yet", () -> y.paths());
        y.analyse();
        DUE.text(what + " is refused, the net stays", Answers.of(y, SAMPLE_NODES - 1), ANALYSED);
        DUE.same(what + " is refused, no node more", y.output(), SAMPLE_NODES);
    }

    /** Otherwise "changed nothing" would say little. */
    private static void sampleTellsMuch() {
        PathTiming x = Nets.sample();
        DUE.same("three ends", x.analyse(), 3);
        DUE.same("timing paths", x.paths(), 16);
        DUE.same("ways", x.ways(4), 2);
        Act[] changes = {
            y -> y.clock(500, 201), y -> y.clock(501, 200), y -> y.input(0, 0, 0, 0), y -> y.gate(1),
            y -> y.register(), y -> y.output(), y -> y.wire(7, 1, 1, 0, 0), y -> y.wire(3, 1, 0, 37, 42),
            y -> y.sense(2, 0, 1), y -> y.sense(7, 2, 2), y -> y.delay(2, 1, 1, 114, 127),
            y -> y.delay(4, 1, 0, 151, 158), y -> y.check(5, 0, 994, -1055), y -> y.check(3, 1, -669, 682),
        };
        for (int i = 0; i < changes.length; i++) {
            PathTiming y = Nets.sample();
            changes[i].on(y);
            y.analyse();
            DUE.same("change " + i + " shows", Answers.of(y, SAMPLE_NODES - 1).equals(ANALYSED) ? 0 : 1, 1);
        }
    }

    /** Promise 2. */
    private static void clockTaken() {
        int[][] taken = {{2, 1}, {3, 1}, {3, 2}, {1000000, 1}, {1000000, 999999}, {999999, 999998}, {1000, 500}};
        for (int[] t : taken) {
            PathTiming x = Nets.through();
            x.register();
            x.gate(1);
            x.sense(4, 0, 1);
            x.wire(4, 0, 0, 0, 0);
            x.wire(3, 1, 4, 0, 0);
            x.output();
            x.wire(5, 0, 3, 0, 0);
            x.clock(t[0], t[1]);
            String name = "clock(" + t[0] + ", " + t[1] + "): ";
            DUE.same(name + "ends", x.analyse(), 2);
            DUE.same(name + "the period", x.slack(2, 0), t[0]);
            DUE.same(name + "the width", x.arrival(5, 0, 1, true), t[1]);
            DUE.same(name + "from the width to the period", x.slack(5, 0), t[0] - t[1]);
            DUE.same(name + "the least period above the width", x.leastPeriod(), t[1] + 1);
        }
    }

    private static void clockRefused() {
        for (int period : new int[] {LOWEST, -1000000, -1, 0, 1, 1000001, HIGHEST}) {
            for (int width : new int[] {LOWEST, -1, 0, 1, 500, HIGHEST}) {
                refused("clock(" + period + ", " + width + ")", x -> x.clock(period, width));
            }
        }
        for (int period : new int[] {2, 3, 500, 1000000}) {
            for (int width : new int[] {LOWEST, -1, 0, period, period + 1, 1000001, HIGHEST}) {
                refused("clock(" + period + ", " + width + ")", x -> x.clock(period, width));
            }
        }
    }

    /** Promise 3. */
    private static void inputTaken() {
        int[][] taken = {{-1000000, -1000000}, {1000000, 1000000}, {-1000000, 1000000}, {999999, 1000000},
            {-1000000, -999999}, {0, 0}, {-1, 0}, {0, 1}};
        for (int[] rise : taken) {
            for (int[] fall : taken) {
                PathTiming x = new PathTiming();
                String name = "input(" + rise[0] + ", " + rise[1] + ", " + fall[0] + ", " + fall[1] + "): ";
                DUE.same(name + "number", x.input(rise[0], rise[1], fall[0], fall[1]), 1);
                x.analyse();
                DUE.same(name + "rise, early", x.arrival(1, 0, 0, false), rise[0]);
                DUE.same(name + "rise, late", x.arrival(1, 0, 0, true), rise[1]);
                DUE.same(name + "fall, early", x.arrival(1, 1, 0, false), fall[0]);
                DUE.same(name + "fall, late", x.arrival(1, 1, 0, true), fall[1]);
            }
        }
    }

    private static void inputRefused() {
        int[][] wrong = {{-1000001, -1000001}, {-1000001, -1000000}, {-1000001, 1000000}, {-1000000, 1000001},
            {1000000, 1000001}, {1000001, 1000001}, {1, 0}, {0, -1}, {1000000, 999999}, {-999999, -1000000},
            {1000000, -1000000}, {1000001, 1000000}, {-1000000, -1000001}, {LOWEST, HIGHEST}, {HIGHEST, LOWEST},
            {LOWEST, LOWEST}, {HIGHEST, HIGHEST}, {LOWEST, 0}, {0, HIGHEST}};
        for (int[] w : wrong) {
            refused("input(" + w[0] + ", " + w[1] + ", 0, 0)", x -> x.input(w[0], w[1], 0, 0));
            refused("input(0, 0, " + w[0] + ", " + w[1] + ")", x -> x.input(0, 0, w[0], w[1]));
        }
    }

    /** Promise 4: so many pins and no more; each with the sense 0 and no delays. */
    private static void gateTaken() {
        for (int pins = 1; pins <= 3; pins++) {
            for (int pin = 0; pin < pins; pin++) {
                int last = pins;
                PathTiming x = new PathTiming();
                x.input(-7, -5, 11, 13);
                DUE.same("gate(" + pins + ")", x.gate(pins), 2);
                DUE.argument("behind the last pin of " + pins, () -> x.wire(2, last, 1, 0, 0));
                DUE.argument("before the first pin of " + pins, () -> x.wire(2, -1, 1, 0, 0));
                x.wire(2, pin, 1, 0, 0);
                x.analyse();
                DUE.same("new gate, rise, early", x.arrival(2, 0, 0, false), -7);
                DUE.same("new gate, rise, late", x.arrival(2, 0, 0, true), -5);
                DUE.same("new gate, fall, early", x.arrival(2, 1, 0, false), 11);
                DUE.same("new gate, fall, late", x.arrival(2, 1, 0, true), 13);
            }
        }
    }

    private static void gateRefused() {
        for (int pins : new int[] {LOWEST, -1, 0, 4, 5, HIGHEST}) {
            refused("gate(" + pins + ")", x -> x.gate(pins));
        }
    }

    /** Promise 7: which pins there are. */
    private static void wirePins() {
        for (int n = 0; n < SAMPLE_NODES; n++) {
            int node = n;
            int pins = PINS_OF_SAMPLE[n];
            for (int pin = 0; pin < pins; pin++) {
                PathTiming x = Nets.sample();
                x.analyse();
                x.wire(node, pin, 1, 1, 2);
                DUE.state("a wire to pin " + pin + " of node " + node + " is taken", () -> x.paths());
            }
            for (int pin : new int[] {LOWEST, -1, pins, pins + 1, 1 << 30, HIGHEST}) {
                refused("wire(" + node + ", " + pin + ", ..)", x -> x.wire(node, pin, 1, 1, 2));
            }
        }
        for (int node : NO_NODES) {
            for (int pin = 0; pin < 3; pin++) {
                int p = pin;
                refused("wire(" + node + ", " + pin + ", ..)", x -> x.wire(node, p, 1, 1, 2));
            }
        }
    }

    private static void wireSources() {
        int[][] places = {{2, 0}, {7, 1}, {3, 0}, {3, 1}, {5, 0}};
        for (int[] place : places) {
            for (int from : new int[] {LOWEST, -1, 5, SAMPLE_NODES, 48, HIGHEST}) {
                refused("wire(" + place[0] + ", " + place[1] + ", " + from + ", ..)",
                        x -> x.wire(place[0], place[1], from, 1, 2));
            }
            for (int from : new int[] {0, 1, 2, 3, 4, 6, 7}) {
                PathTiming x = Nets.sample();
                x.analyse();
                x.wire(place[0], place[1], from, 1, 2);
                DUE.state("a wire from node " + from + " is taken", () -> x.paths());
            }
        }
        PathTiming x = Nets.sample();
        x.wire(3, 0, 3, 1, 2);
        x.analyse();
        DUE.same("a register from itself", x.arrival(3, 0, 0, true), 41 + 137 + 2);
        x.wire(7, 0, 7, 1, 2);
        DUE.same("a gate from itself", x.cycle(), 7);
        x.wire(7, 0, 1, 1, 2);
        DUE.same("in place of the one that it had", x.cycle(), PathTiming.NONE);
    }

    private static void wireDelays() {
        for (int[] d : DELAYS) {
            PathTiming x = new PathTiming();
            x.input(0, 0, 0, 0);
            x.gate(3);
            x.register();
            x.output();
            x.wire(2, 2, 1, d[0], d[1]);
            x.wire(3, 0, 1, d[0], d[1]);
            x.wire(3, 1, 0, d[0], d[1]);
            x.wire(4, 0, 3, d[0], d[1]);
            x.analyse();
            String name = "a wire of " + d[0] + " to " + d[1];
            sameTimes(x, name + " to a gate", 2, d[0], d[1]);
            sameTimes(x, name + " to pin 0 of a register", 3, d[0], d[1]);
            sameTimes(x, name + " to pin 1 of a register and to an output", 4, 2 * d[0], 2 * d[1]);
        }
        int[][] places = {{2, 0}, {7, 1}, {3, 0}, {3, 1}, {5, 0}};
        for (int[] d : NO_DELAYS) {
            for (int[] place : places) {
                refused("wire(" + place[0] + ", " + place[1] + ", 1, " + d[0] + ", " + d[1] + ")",
                        x -> x.wire(place[0], place[1], 1, d[0], d[1]));
            }
        }
    }

    private static void sameTimes(PathTiming x, String what, int node, int early, int late) {
        for (int change = 0; change < 2; change++) {
            DUE.same(what + ", early, change " + change, x.arrival(node, change, 0, false), early);
            DUE.same(what + ", late, change " + change, x.arrival(node, change, 0, true), late);
        }
    }

    /** Promise 8: only a gate's pins have a sense. */
    private static void sensePins() {
        for (int n = 0; n < SAMPLE_NODES; n++) {
            int node = n;
            boolean isGate = n == 2 || n == 6 || n == 7;
            int pins = isGate ? PINS_OF_SAMPLE[n] : 0;
            for (int pin = 0; pin < pins; pin++) {
                PathTiming x = Nets.sample();
                x.analyse();
                x.sense(node, pin, 0);
                DUE.state("the sense of pin " + pin + " of node " + node + " is taken", () -> x.paths());
            }
            for (int pin : new int[] {LOWEST, -1, pins, pins + 1, 1 << 30, HIGHEST}) {
                refused("sense(" + node + ", " + pin + ", 0)", x -> x.sense(node, pin, 0));
            }
        }
        for (int node : NO_NODES) {
            refused("sense(" + node + ", 0, 0)", x -> x.sense(node, 0, 0));
        }
    }

    private static void senses() {
        for (int sense : new int[] {LOWEST, -1, 3, HIGHEST}) {
            refused("sense(2, 0, " + sense + ")", x -> x.sense(2, 0, sense));
            refused("sense(6, 0, " + sense + ")", x -> x.sense(6, 0, sense));
            refused("sense(7, 2, " + sense + ")", x -> x.sense(7, 2, sense));
        }
        // By sense: the least and greatest time of the gate's rise and of its fall.
        int[][] due = {{1, 2, 10, 20}, {10, 20, 1, 2}, {1, 20, 1, 20}};
        for (int pin = 0; pin < 3; pin++) {
            for (int sense = 0; sense <= 2; sense++) {
                PathTiming x = new PathTiming();
                x.input(1, 2, 10, 20);
                x.gate(3);
                x.wire(2, pin, 1, 0, 0);
                x.sense(2, pin, sense);
                x.analyse();
                String name = "sense " + sense + " of pin " + pin;
                DUE.same(name + ", rise, early", x.arrival(2, 0, 0, false), due[sense][0]);
                DUE.same(name + ", rise, late", x.arrival(2, 0, 0, true), due[sense][1]);
                DUE.same(name + ", fall, early", x.arrival(2, 1, 0, false), due[sense][2]);
                DUE.same(name + ", fall, late", x.arrival(2, 1, 0, true), due[sense][3]);
            }
        }
    }

    /** Promise 9: a gate's pins and a register's pin 1, no other. */
    private static void delayPins() {
        for (int n = 0; n < SAMPLE_NODES; n++) {
            int node = n;
            boolean isGate = n == 2 || n == 6 || n == 7;
            boolean isRegister = n == 3 || n == 4;
            for (int p : new int[] {LOWEST, -1, 0, 1, 2, 3, 1 << 30, HIGHEST}) {
                int pin = p;
                if (isRegister && pin == 1 || isGate && pin >= 0 && pin < PINS_OF_SAMPLE[n]) {
                    PathTiming x = Nets.sample();
                    x.analyse();
                    x.delay(node, pin, 0, 1, 2);
                    DUE.state("the delay of pin " + pin + " of node " + node + " is taken", () -> x.paths());
                } else {
                    refused("delay(" + node + ", " + pin + ", 0, ..)", x -> x.delay(node, pin, 0, 1, 2));
                }
            }
        }
        for (int node : NO_NODES) {
            refused("delay(" + node + ", 0, 0, ..)", x -> x.delay(node, 0, 0, 1, 2));
            refused("delay(" + node + ", 1, 0, ..)", x -> x.delay(node, 1, 0, 1, 2));
        }
    }

    private static void delayChanges() {
        for (int change : NO_BITS) {
            refused("delay(2, 0, " + change + ", ..)", x -> x.delay(2, 0, change, 1, 2));
            refused("delay(7, 2, " + change + ", ..)", x -> x.delay(7, 2, change, 1, 2));
            refused("delay(3, 1, " + change + ", ..)", x -> x.delay(3, 1, change, 1, 2));
        }
    }

    private static void delays() {
        for (int[] d : DELAYS) {
            for (int change = 0; change < 2; change++) {
                PathTiming x = new PathTiming();
                x.input(0, 0, 0, 0);
                x.gate(3);
                x.register();
                x.output();
                x.wire(2, 2, 1, 0, 0);
                x.wire(3, 1, 0, 0, 0);
                x.wire(4, 0, 3, 0, 0);
                x.delay(2, 2, change, d[0], d[1]);
                x.delay(3, 1, change, d[0], d[1]);
                x.analyse();
                for (int node : new int[] {2, 4}) {
                    String name = "a delay of " + d[0] + " to " + d[1] + ", seen at node " + node;
                    DUE.same(name + ", early", x.arrival(node, change, 0, false), d[0]);
                    DUE.same(name + ", late", x.arrival(node, change, 0, true), d[1]);
                    DUE.same(name + ", the other change", x.arrival(node, 1 - change, 0, true), 0);
                }
            }
        }
        for (int[] d : NO_DELAYS) {
            refused("delay(2, 0, 1, " + d[0] + ", " + d[1] + ")", x -> x.delay(2, 0, 1, d[0], d[1]));
            refused("delay(7, 2, 0, " + d[0] + ", " + d[1] + ")", x -> x.delay(7, 2, 0, d[0], d[1]));
            refused("delay(3, 1, 1, " + d[0] + ", " + d[1] + ")", x -> x.delay(3, 1, 1, d[0], d[1]));
        }
    }

    /** Promise 10: registers and outputs, no other. */
    private static void checkNodes() {
        for (int node : new int[] {0, 1, 2, 6, 7}) {
            refused("check(" + node + ", 0, ..)", x -> x.check(node, 0, 1, 2));
        }
        for (int node : NO_NODES) {
            refused("check(" + node + ", 0, ..)", x -> x.check(node, 0, 1, 2));
        }
        for (int node : new int[] {3, 4, 5}) {
            PathTiming x = Nets.sample();
            x.analyse();
            x.check(node, 0, 1, 2);
            DUE.state("the check of node " + node + " is taken", () -> x.paths());
        }
    }

    private static void checkChanges() {
        for (int change : NO_BITS) {
            refused("check(3, " + change + ", ..)", x -> x.check(3, change, 1, 2));
            refused("check(5, " + change + ", ..)", x -> x.check(5, change, 1, 2));
        }
    }

    private static void checkTimes() {
        int[] times = {-10000, -9999, -1, 0, 1, 9999, 10000};
        for (int setup : times) {
            for (int hold : times) {
                checkTaken(0, setup, hold);
                checkTaken(1, setup, hold);
            }
        }
        for (int wrong : new int[] {LOWEST, -10001, 10001, HIGHEST}) {
            for (int node : new int[] {3, 5}) {
                refused("check(" + node + ", 0, " + wrong + ", 0)", x -> x.check(node, 0, wrong, 0));
                refused("check(" + node + ", 1, 0, " + wrong + ")", x -> x.check(node, 1, 0, wrong));
                refused("check(" + node + ", 1, " + wrong + ", 10001)", x -> x.check(node, 1, wrong, 10001));
            }
        }
    }

    /** The other change's times are the least, so that the slack is of the change that is looked at. */
    private static void checkTaken(int change, int setup, int hold) {
        PathTiming x = Nets.through();
        x.register();
        x.wire(3, 1, 0, 0, 0);
        x.wire(3, 0, 1, 0, 0);
        for (int end = 2; end <= 3; end++) {
            x.check(end, 1 - change, -10000, -10000);
            x.check(end, change, setup, hold);
        }
        x.analyse();
        for (int end = 2; end <= 3; end++) {
            String name = "check(" + end + ", " + change + ", " + setup + ", " + hold + "): ";
            DUE.same(name + "setup", x.slack(end, 0), 1000 - setup);
            DUE.same(name + "hold", x.slack(end, 1), -hold);
        }
    }
}
