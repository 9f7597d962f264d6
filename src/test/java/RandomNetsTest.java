import java.util.List;
import java.util.Random;

/** Nets from a fixed seed: every answer of the program against the reference's. */
public final class RandomNetsTest {
    private static final int NETS = 6000;
    private static final Due DUE = new Due();
    private static int cycles, tangles, many, few, skipped, noPeriod, periods, fixedEdges;

    private final Random random;
    private final PathTiming x = new PathTiming();
    private final Reference r = new Reference();
    private final int reach;
    /** Nets with many ways: gates take from the gates right before them. */
    private final boolean isDense;

    private RandomNetsTest(long seed) {
        random = new Random(seed);
        reach = random.nextInt(4) == 0 ? 1 : random.nextBoolean() ? 30 : 400;
        isDense = random.nextInt(5) == 0;
    }

    public static void main(String[] args) {
        for (int seed = 0; seed < NETS; seed++) {
            new RandomNetsTest(seed).run("net " + seed);
        }
        System.out.println("cycles " + cycles + ", tangles " + tangles + ", many " + many + ", few " + few
                + ", skipped " + skipped + ", no period " + noPeriod + ", periods " + periods
                + ", ends before the period " + fixedEdges);
        DUE.same("each kind of net was met", Math.min(Math.min(Math.min(cycles, tangles), Math.min(many, few)),
                Math.min(Math.min(noPeriod, periods), fixedEdges)) > 0 ? 1 : 0, 1);
        DUE.finish();
    }

    private void run(String name) {
        build();
        compare(name);
        for (int i = 0; i < 3; i++) {
            change();
            compare(name + " changed " + i);
        }
    }

    private int pick(int n) {
        return random.nextInt(n);
    }

    private void build() {
        if (pick(4) != 0) {
            setClock();
        }
        int gates = isDense ? 8 + pick(8) : pick(9);
        int registers = 1 + pick(4);
        int inputs = pick(3);
        int outputs = pick(3);
        int all = gates + registers + inputs + outputs;
        for (int i = 0; i < all; i++) {
            int k = pick(gates + registers + inputs + outputs);
            if (k < gates) {
                gates--;
                addGate();
            } else if (k < gates + registers) {
                registers--;
                DUE.same("register()", x.register(), r.add('r', 2));
            } else if (k < gates + registers + inputs) {
                inputs--;
                addInput();
            } else {
                outputs--;
                DUE.same("output()", x.output(), r.add('o', 1));
            }
        }
        boolean mayTurn = pick(12) == 0;
        for (int n = 1; n < r.nodes.size(); n++) {
            for (int p = 0; p < r.nodes.get(n).pins.length; p++) {
                if (pick(12) != 0) {
                    setWire(n, p, mayTurn);
                }
            }
            setTimes(n);
        }
    }

    private void setClock() {
        r.period = 2 + pick(reach * 3);
        r.width = 1 + pick(r.period - 1);
        x.clock(r.period, r.width);
    }

    private void addGate() {
        int pins = 1 + pick(3);
        DUE.same("gate()", x.gate(pins), r.add('g', pins));
    }

    private void addInput() {
        int[] t = new int[4];
        for (int c = 0; c < 2; c++) {
            t[2 * c] = pick(2 * reach) - reach;
            t[2 * c + 1] = t[2 * c] + pick(reach);
        }
        int n = r.add('i', 0);
        for (int c = 0; c < 2; c++) {
            r.nodes.get(n).early[c] = t[2 * c];
            r.nodes.get(n).late[c] = t[2 * c + 1];
        }
        DUE.same("input()", x.input(t[0], t[1], t[2], t[3]), n);
    }

    /** The gates' numbers give an order, so that most nets have no cycle. */
    private boolean setWire(int n, int p, boolean mayTurn) {
        boolean toClock = r.nodes.get(n).kind == 'r' && p == 1;
        for (int tries = 0; tries < 20; tries++) {
            int from = toClock && pick(3) == 0 ? 0 : pick(r.nodes.size());
            char kind = r.nodes.get(from).kind;
            if (kind == 'o' || toClock && (kind == 'i' || kind == 'r') && pick(8) != 0) {
                continue;
            }
            if (isDense && tries < 12 && (kind != 'g' || from < n - 4) && r.nodes.get(n).kind != 'r') {
                continue;
            }
            if (!mayTurn && r.nodes.get(n).kind == 'g' && kind == 'g' && from >= n) {
                continue;
            }
            Reference.Pin pin = r.nodes.get(n).pins[p];
            pin.from = from;
            pin.wireEarly = pick(reach);
            pin.wireLate = pin.wireEarly + pick(reach);
            x.wire(n, p, from, pin.wireEarly, pin.wireLate);
            return true;
        }
        return false;
    }

    private void setTimes(int n) {
        Reference.Node node = r.nodes.get(n);
        for (int p = 0; p < node.pins.length && node.kind == 'g'; p++) {
            node.pins[p].sense = pick(5) / 2;
            x.sense(n, p, node.pins[p].sense);
            for (int c = 0; c < 2; c++) {
                node.pins[p].early[c] = pick(reach);
                node.pins[p].late[c] = node.pins[p].early[c] + pick(reach);
                x.delay(n, p, c, node.pins[p].early[c], node.pins[p].late[c]);
            }
        }
        for (int c = 0; c < 2 && node.kind == 'r'; c++) {
            node.early[c] = pick(reach);
            node.late[c] = node.early[c] + pick(reach);
            x.delay(n, 1, c, node.early[c], node.late[c]);
        }
        for (int c = 0; c < 2 && (node.kind == 'r' || node.kind == 'o'); c++) {
            node.setup[c] = pick(2 * reach) - reach / 2;
            node.hold[c] = pick(2 * reach) - reach / 2;
            x.check(n, c, node.setup[c], node.hold[c]);
        }
    }

    private void change() {
        int n = 1 + pick(r.nodes.size() - 1);
        int pins = r.nodes.get(n).pins.length;
        int what = pick(4);
        if (what == 0 || what == 1 && (pins == 0 || !setWire(n, pick(pins), pick(6) == 0))) {
            setClock();
        } else if (what == 1) {
            DUE.state("paths() of a net wired anew", () -> x.paths());
        } else if (what == 2 && r.nodes.size() < 40) {
            addGate();
            int gate = r.nodes.size() - 1;
            setWire(gate, 0, false);
            setTimes(gate);
            if (pins > 0) {
                int p = pick(pins);
                r.nodes.get(n).pins[p].from = gate;
                r.nodes.get(n).pins[p].wireEarly = 0;
                r.nodes.get(n).pins[p].wireLate = 3;
                x.wire(n, p, gate, 0, 3);
            }
        } else {
            setTimes(n);
            if (r.nodes.get(n).kind == 'i') {
                setClock();
            }
        }
        DUE.state("worst() of a changed net", () -> x.worst(0));
    }

    private void compare(String name) {
        int cycle = r.cycle();
        DUE.same(name + " cycle()", x.cycle(), cycle);
        if (cycle != Reference.NONE) {
            cycles++;
            DUE.same(name + " analyse()", x.analyse(), PathTiming.CYCLE);
            DUE.state(name + " paths()", () -> x.paths());
            return;
        }
        int found = r.find();
        if (found == 1) {
            skipped++;
            x.analyse();
            return;
        }
        if (found == -2) {
            tangles++;
            DUE.same(name + " analyse()", x.analyse(), PathTiming.TANGLE);
            DUE.state(name + " paths()", () -> x.paths());
            return;
        }
        DUE.same(name + " analyse()", x.analyse(), r.ends());
        compareTimes(name);
        if (r.timings.size() > 4000) {
            many++;
            DUE.same(name + " paths()", x.paths(), PathTiming.MANY);
            DUE.state(name + " path()", () -> x.path(0, 0));
            DUE.state(name + " element()", () -> x.element(0, 0, 0));
        } else {
            few++;
            DUE.same(name + " paths()", x.paths(), r.timings.size());
            comparePaths(name, 0);
            comparePaths(name, 1);
        }
    }

    private void compareTimes(String name) {
        for (int n = 0; n < r.nodes.size(); n++) {
            char kind = r.nodes.get(n).kind;
            for (int i = 0; i < 8; i++) {
                DUE.same(name + " arrival(" + n + ", " + (i & 1) + ", " + (i >> 1 & 1) + ", " + (i >= 4) + ")",
                        x.arrival(n, i & 1, i >> 1 & 1, i >= 4), r.arrival(n, i & 1, i >> 1 & 1, i >= 4));
            }
            if (kind == 'r') {
                DUE.same(name + " ways(" + n + ")", x.ways(n), r.clockWays.get(n).size());
            }
            for (int check = 0; check < 2 && (kind == 'r' || kind == 'o'); check++) {
                DUE.same(name + " slack(" + n + ", " + check + ")", x.slack(n, check), r.slack(n, check));
            }
        }
        for (int check = 0; check < 2; check++) {
            DUE.same(name + " worst(" + check + ")", x.worst(check), r.worst(check));
            DUE.same(name + " total(" + check + ")", x.total(check), r.total(check));
        }
        int period = r.leastPeriod();
        DUE.same(name + " leastPeriod()", x.leastPeriod(), period);
        noPeriod += period == Reference.NONE ? 1 : 0;
        periods += period > r.width + 1 ? 1 : 0;
        for (Reference.Timing t : r.timings) {
            if (t.clock != null && t.clock.base > t.data.base) {
                fixedEdges++;
                break;
            }
        }
    }

    private void comparePaths(String name, int check) {
        List<Reference.Timing> sorted = r.inOrder(check);
        for (int k = 0; k < Math.min(20, sorted.size()); k++) {
            Reference.Timing t = sorted.get(k);
            DUE.same(name + " path(" + check + ", " + k + ")", x.path(check, k), r.slack(t, check, r.period));
            for (int i = -1; i <= t.row.length; i++) {
                int due = i < 0 || i >= t.row.length ? -1 : t.row[i];
                DUE.same(name + " element(" + check + ", " + k + ", " + i + ")", x.element(check, k, i), due);
            }
        }
        int behind = Math.min(20, sorted.size());
        DUE.place(name + " path(" + check + ", " + behind + ")", () -> x.path(check, behind));
        DUE.place(name + " element(" + check + ", " + behind + ", 0)", () -> x.element(check, behind, 0));
    }
}
