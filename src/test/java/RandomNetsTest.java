import java.util.List;
import java.util.Random;

/** Nets from a fixed seed: every answer of the program against the reference's. */
public final class RandomNetsTest {
    private static final int NETS = 6000;
    /** Above what times may be apart; the last one comes to the greatest delay. */
    private static final int[] REACHES = {1, 1, 30, 30, 400, 400, 10001};
    private static final int GREATEST_DELAY = 10000;
    private static final Due DUE = new Due();
    private static int cycles, tangles, many, few, skipped, noPeriod, periods, fixedEdges;

    private final Random random;
    private final Bench bench = new Bench();
    private final Reference r = new Reference();
    private final int reach;
    /** Nets with many ways: gates take from the gates right before them. */
    private final boolean isDense;
    /** Nets of 48 nodes; most of their times stay as they are in a new net, to save calls. */
    private final boolean isFull;

    private RandomNetsTest(long seed) {
        random = new Random(seed);
        reach = REACHES[random.nextInt(REACHES.length)];
        isDense = random.nextInt(5) == 0;
        isFull = !isDense && random.nextInt(8) == 0;
    }

    public static void main(String[] args) {
        for (int seed = 0; seed < NETS; seed++) {
            new RandomNetsTest(seed).run("net " + seed);
        }
        System.out.println("cycles " + cycles + ", tangles " + tangles + ", many " + many + ", few " + few
                + ", skipped " + skipped + ", no period " + noPeriod + ", periods " + periods
                + ", ends before the period " + fixedEdges);
        DUE.same("each kind of net was met", Math.min(Math.min(Math.min(cycles, tangles), Math.min(many, few)),
                Math.min(Math.min(noPeriod, periods), fixedEdges)) > 0 ? 1 : 0, 1);
        DUE.finish();
    }

    private void run(String name) {
        build();
        compare(name);
        for (int i = 0; i < 3; i++) {
            change();
            compare(name + " changed " + i);
        }
    }

    private int pick(int n) {
        return random.nextInt(n);
    }

    private int late(int early) {
        return Math.min(early + pick(reach), GREATEST_DELAY);
    }

    private int checkTime() {
        return Math.min(pick(2 * reach) - reach / 2, GREATEST_DELAY);
    }

    private void build() {
        if (pick(4) != 0) {
            setClock();
        }
        int registers = 1 + pick(isFull ? 12 : 4);
        int inputs = pick(isFull ? 6 : 3);
        int outputs = pick(isFull ? 6 : 3);
        int gates = isFull ? 47 - registers - inputs - outputs : isDense ? 8 + pick(8) : pick(9);
        int all = gates + registers + inputs + outputs;
        for (int i = 0; i < all; i++) {
            int k = pick(gates + registers + inputs + outputs);
            if (k < gates) {
                gates--;
                addGate();
            } else if (k < gates + registers) {
                registers--;
                DUE.same("register()", bench.make(x -> x.register()), r.add('r', 2));
            } else if (k < gates + registers + inputs) {
                inputs--;
                addInput();
            } else {
                outputs--;
                DUE.same("output()", bench.make(x -> x.output()), r.add('o', 1));
            }
        }
        boolean mayTurn = pick(12) == 0;
        for (int n = 1; n < r.nodes.size(); n++) {
            for (int p = 0; p < r.nodes.get(n).pins.length; p++) {
                if (pick(12) != 0) {
                    setWire(n, p, mayTurn);
                }
            }
            if (!isFull || pick(4) == 0) {
                setTimes(n);
            }
        }
        if (isFull) {
            DUE.same("a full net", bench.x().register(), PathTiming.NONE);
        }
    }

    private void setClock() {
        int period = 2 + pick(reach * 3);
        int width = 1 + pick(period - 1);
        r.period = period;
        r.width = width;
        bench.change(x -> x.clock(period, width));
    }

    private void addGate() {
        int pins = isFull ? 1 + pick(7) / 3 : 1 + pick(3);
        DUE.same("gate()", bench.make(x -> x.gate(pins)), r.add('g', pins));
    }

    private void addInput() {
        int[] t = new int[4];
        for (int c = 0; c < 2; c++) {
            t[2 * c] = pick(2 * reach) - reach;
            t[2 * c + 1] = t[2 * c] + pick(reach);
        }
        int n = r.add('i', 0);
        for (int c = 0; c < 2; c++) {
            r.nodes.get(n).early[c] = t[2 * c];
            r.nodes.get(n).late[c] = t[2 * c + 1];
        }
        DUE.same("input()", bench.make(x -> x.input(t[0], t[1], t[2], t[3])), n);
    }

    /** The gates' numbers give an order, so that most nets have no cycle. */
    private boolean setWire(int n, int p, boolean mayTurn) {
        boolean toClock = r.nodes.get(n).kind == 'r' && p == 1;
        for (int tries = 0; tries < 20; tries++) {
            int from = toClock && pick(3) == 0 ? 0 : pick(r.nodes.size());
            char kind = r.nodes.get(from).kind;
            if (kind == 'o' || toClock && (kind == 'i' || kind == 'r') && pick(8) != 0) {
                continue;
            }
            if (isDense && tries < 12 && (kind != 'g' || from < n - 4) && r.nodes.get(n).kind != 'r') {
                continue;
            }
            if (!mayTurn && r.nodes.get(n).kind == 'g' && kind == 'g' && from >= n) {
                continue;
            }
            int early = pick(reach);
            putWire(n, p, from, early, late(early));
            return true;
        }
        return false;
    }

    private void putWire(int n, int p, int from, int early, int late) {
        Reference.Pin pin = r.nodes.get(n).pins[p];
        pin.from = from;
        pin.wireEarly = early;
        pin.wireLate = late;
        bench.change(x -> x.wire(n, p, from, early, late));
    }

    private void setTimes(int n) {
        Reference.Node node = r.nodes.get(n);
        for (int p = 0; p < node.pins.length && node.kind == 'g'; p++) {
            setSense(n, p, pick(5) / 2);
            setDelay(n, p, node.pins[p].early, node.pins[p].late);
        }
        if (node.kind == 'r') {
            setDelay(n, 1, node.early, node.late);
        }
        for (int c = 0; c < 2 && (node.kind == 'r' || node.kind == 'o'); c++) {
            setCheck(n, c, checkTime(), checkTime());
        }
    }

    private void setSense(int n, int p, int sense) {
        r.nodes.get(n).pins[p].sense = sense;
        bench.change(x -> x.sense(n, p, sense));
    }

    private void setDelay(int n, int p, int[] earlies, int[] lates) {
        for (int c = 0; c < 2; c++) {
            int change = c;
            int early = pick(reach);
            int late = late(early);
            earlies[c] = early;
            lates[c] = late;
            bench.change(x -> x.delay(n, p, change, early, late));
        }
    }

    private void setCheck(int n, int change, int setup, int hold) {
        r.nodes.get(n).setup[change] = setup;
        r.nodes.get(n).hold[change] = hold;
        bench.change(x -> x.check(n, change, setup, hold));
    }

    private void change() {
        int n = 1 + pick(r.nodes.size() - 1);
        int pins = r.nodes.get(n).pins.length;
        int what = pick(4);
        if (what == 0 || what == 1 && (pins == 0 || !setWire(n, pick(pins), pick(6) == 0))) {
            setClock();
        } else if (what == 1) {
            DUE.state("paths() of a net wired anew", () -> bench.x().paths());
        } else if (what == 2 && r.nodes.size() < 40) {
            addGate();
            int gate = r.nodes.size() - 1;
            setWire(gate, 0, false);
            setTimes(gate);
            if (pins > 0) {
                putWire(n, pick(pins), gate, 0, 3);
            }
        } else {
            setTimes(n);
            if (r.nodes.get(n).kind == 'i') {
                setClock();
            }
        }
        DUE.state("worst() of a changed net", () -> bench.x().worst(0));
    }

    private void compare(String name) {
        int cycle = r.cycle();
        DUE.same(name + " cycle()", bench.x().cycle(), cycle);
        if (cycle != Reference.NONE) {
            cycles++;
            DUE.same(name + " analyse()", bench.make(x -> x.analyse()), PathTiming.CYCLE);
            DUE.state(name + " paths()", () -> bench.x().paths());
            return;
        }
        int found = r.find();
        if (found == 1) {
            skipped++;
            bench.make(x -> x.analyse());
            return;
        }
        if (found == -2) {
            tangles++;
            DUE.same(name + " analyse()", bench.make(x -> x.analyse()), PathTiming.TANGLE);
            DUE.state(name + " paths()", () -> bench.x().paths());
            return;
        }
        DUE.same(name + " analyse()", bench.make(x -> x.analyse()), r.ends());
        compareTimes(name);
        if (r.timings.size() > 4000) {
            many++;
            DUE.same(name + " paths()", bench.x().paths(), PathTiming.MANY);
            DUE.state(name + " path()", () -> bench.x().path(0, 0));
            DUE.state(name + " element()", () -> bench.x().element(0, 0, 0));
        } else {
            few++;
            DUE.same(name + " paths()", bench.x().paths(), r.timings.size());
            comparePaths(name, 0);
            comparePaths(name, 1);
        }
    }

    private void compareTimes(String name) {
        for (int n = 0; n < r.nodes.size(); n++) {
            char kind = r.nodes.get(n).kind;
            for (int i = 0; i < 8; i++) {
                DUE.same(name + " arrival(" + n + ", " + (i & 1) + ", " + (i >> 1 & 1) + ", " + (i >= 4) + ")",
                        bench.x().arrival(n, i & 1, i >> 1 & 1, i >= 4), r.arrival(n, i & 1, i >> 1 & 1, i >= 4));
            }
            if (kind == 'r') {
                DUE.same(name + " ways(" + n + ")", bench.x().ways(n), r.clockWays.get(n).size());
            }
            for (int check = 0; check < 2 && (kind == 'r' || kind == 'o'); check++) {
                DUE.same(name + " slack(" + n + ", " + check + ")", bench.x().slack(n, check), r.slack(n, check));
            }
        }
        for (int check = 0; check < 2; check++) {
            DUE.same(name + " worst(" + check + ")", bench.x().worst(check), r.worst(check));
            DUE.same(name + " total(" + check + ")", bench.x().total(check), r.total(check));
        }
        int period = r.leastPeriod();
        DUE.same(name + " leastPeriod()", bench.x().leastPeriod(), period);
        noPeriod += period == Reference.NONE ? 1 : 0;
        periods += period > r.width + 1 ? 1 : 0;
        for (Reference.Timing t : r.timings) {
            if (t.clock != null && t.clock.base > t.data.base) {
                fixedEdges++;
                break;
            }
        }
    }

    private void comparePaths(String name, int check) {
        List<Reference.Timing> sorted = r.inOrder(check);
        for (int k = 0; k < Math.min(20, sorted.size()); k++) {
            Reference.Timing t = sorted.get(k);
            DUE.same(name + " path(" + check + ", " + k + ")", bench.x().path(check, k), r.slack(t, check, r.period));
            for (int i = -1; i <= t.row.length; i++) {
                int due = i < 0 || i >= t.row.length ? -1 : t.row[i];
                DUE.same(name + " element(" + check + ", " + k + ", " + i + ")", bench.x().element(check, k, i), due);
            }
        }
        int behind = Math.min(20, sorted.size());
        DUE.place(name + " path(" + check + ", " + behind + ")", () -> bench.x().path(check, behind));
        DUE.place(name + " element(" + check + ", " + behind + ", 0)", () -> bench.x().element(check, behind, 0));
    }
}
